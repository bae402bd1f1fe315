/** A court whose verdicts are carried by donkeys; README.md says how it is used. */
public final class DonkeyVerdicts {
    public static final int BAD = -1, NO = -2, FULL = -3, NONE = -4;

    private static final String FIRST_COURT =
        "n7;w0,1,2;w1,2,3;w2,3,1;w1,4,4;w4,5,2;w3,5,5;w0,6,6;w6,3,2;d0,3;d1,5;d2,4;d3,2;b0,1,3;b1,2,5;b2,1,7;b3,3,2;c2,1;c4,2;m4;";

    private static final int MOST_LETTERS = 200, FIRST_LETTER = 32, LAST_LETTER = 126;
    private static final int MOST_PLACES = 8, PLACES_UNTOLD = 5, COURT_HOUSE = 0;
    private static final int MOST_DOORS = 4, MOST_BEASTS = 5, MOST_CARROTS = 9;
    private static final int MOODS = 10, VERDICTS = 8, LAST_VERDICT = 7;
    private static final int MOST_UNDONE = 8, MOST_KEPT = 2;
    private static final int MOST_PASSED = 24, MOST_AWAITED = 99, MOST_TILL_MEETING = 60;
    private static final int MOST_BALKED = 8, TENTHS = 10, LAST_YEAR = 9999, MOST_OF_YEAR = 60;
    private static final int DONKEY = 0, MULE = 1, FOAL = 2, OLD = 3;
    private static final int BLIND = 1, CONSTABLE = 2, LAWYER = 3;
    private static final int FREE = 0, GOES = 1, STANDS = 2, GOES_HOME = 3;

    private final Letters text = new Letters();
    private final Scribe scribe = new Scribe();
    private final Court court = new Court();
    // a text is tried here, so that one with a fault leaves the court alone
    private final Court draft = new Court();
    private final Herd now = new Herd(court);
    private final Shelf past = new Shelf(court, MOST_UNDONE);
    private final Shelf kept = new Shelf(court, MOST_KEPT);
    private final Foresight foresight = new Foresight(court);
    private final Dealer dealer = new Dealer(court);
    private final Balking balking = new Balking(court);

    public DonkeyVerdicts() {
        for (int i = 0; i < FIRST_COURT.length(); i++) {
            text.add(FIRST_COURT.charAt(i));
        }
        open();
        text.clear();
    }

    // ---- courts

    public int write(int letter) {
        if (letter < FIRST_LETTER || letter > LAST_LETTER) {
            return BAD;
        }
        return text.add((char) letter) ? text.length() : FULL;
    }

    public int wipe() {
        int length = text.length();
        text.clear();
        return length;
    }

    public int fault() {
        return scribe.firstFault(text, draft);
    }

    public int lay() {
        if (scribe.firstFault(text, draft) != NONE || draft.doors() == 0 || draft.beasts() == 0) {
            return NO;
        }
        open();
        return court.beasts();
    }

    public int place(int x, int what) {
        if (!court.hasPlace(x)) {
            return BAD;
        }
        switch (what) {
            case 0: return now.carrotsIn(x);
            case 1: return court.hasMare(x) ? 1 : 0;
            case 2: return now.beastsIn(x);
            default: return BAD;
        }
    }

    public int way(int a, int b) {
        if (!court.hasPlace(a) || !court.hasPlace(b) || a == b) {
            return BAD;
        }
        int length = court.lengthOf(a, b);
        return length == 0 ? NONE : length;
    }

    public int door(int d, int what) {
        if (!court.hasDoor(d)) {
            return BAD;
        }
        switch (what) {
            case 0: return court.doorKind(d);
            case 1: return court.doorPlace(d);
            default: return BAD;
        }
    }

    public int beast(int b, int what) {
        if (!court.hasBeast(b)) {
            return BAD;
        }
        switch (what) {
            case 0: return court.kind(b);
            case 1: return court.pace(b);
            case 2: return now.get(b, Herd.MOOD);
            case 3: return now.get(b, Herd.DOING);
            case 4: return now.get(b, Herd.SPOT);
            case 5: return now.get(b, Herd.TOWARD);
            case 6: return now.get(b, Herd.LEFT);
            case 7: return now.get(b, Herd.DOOR);
            default: return BAD;
        }
    }

    public int sign(int b, int what) {
        if (!court.hasBeast(b) || what < 0 || what > 2) {
            return BAD;
        }
        if (!now.carries(b)) {
            return NO;
        }
        switch (what) {
            case 0: return now.signOf(b, now.get(b, Herd.VERDICT));
            case 1: return now.get(b, Herd.EATEN);
            default: return now.get(b, Herd.LINGERED);
        }
    }

    // ---- hours

    public int send(int b, int v, int d) {
        if (!court.hasBeast(b) || !isVerdict(v) || !court.hasDoor(d)) {
            return BAD;
        }
        if (!now.canBeSent(b, d)) {
            return NO;
        }
        past.push(now);
        now.dispatch(b, v, d);
        return now.get(b, Herd.MOOD);
    }

    public int pass(int n) {
        if (n < 1 || n > MOST_PASSED) {
            return BAD;
        }
        past.push(now);
        for (int i = 0; i < n; i++) {
            now.goOn(NONE);
        }
        return now.hours();
    }

    public int home(int b) {
        if (!court.hasBeast(b)) {
            return BAD;
        }
        if (!now.is(b, STANDS)) {
            return NO;
        }
        past.push(now);
        int read = now.readOf(b);
        now.callHome(b);
        return read;
    }

    public int carrots(int x, int c) {
        if (!court.hasPlace(x) || c < 0 || c > MOST_CARROTS) {
            return BAD;
        }
        past.push(now);
        int before = now.carrotsIn(x);
        now.putCarrots(x, c);
        return before;
    }

    public int undo() {
        return past.pop(now) ? past.size() : NO;
    }

    // ---- what comes

    public int arrives(int b) {
        if (!court.hasBeast(b)) {
            return BAD;
        }
        return now.carries(b) ? foresight.hoursTill(now, b) : NO;
    }

    public int reading(int b) {
        if (!court.hasBeast(b)) {
            return BAD;
        }
        return now.carries(b) ? foresight.readOf(now, b) : NO;
    }

    public int right(int d, int v) {
        return court.hasDoor(d) && isVerdict(v) ? foresight.rightBeasts(now, d, v) : BAD;
    }

    public int soonest(int d, int v) {
        return court.hasDoor(d) && isVerdict(v) ? foresight.soonestBeast(now, d, v) : BAD;
    }

    public int tell(int b, int d, int v) {
        if (!court.hasBeast(b) || !court.hasDoor(d) || !isVerdict(v)) {
            return BAD;
        }
        return now.is(b, FREE) ? lowestBit(foresight.verdictsReadAs(now, b, d, v)) : NO;
    }

    public int deal(int v, int k) {
        if (!isVerdict(v) || k != -1 && !court.hasDoor(k)) {
            return BAD;
        }
        int sum = dealer.fewestHours(now, v);
        return sum == NONE || k == -1 ? sum : dealer.beastAt(k);
    }

    public int lure(int b) {
        if (!court.hasBeast(b)) {
            return BAD;
        }
        return now.is(b, GOES) ? foresight.luringPlace(now, b) : NO;
    }

    public int next(int b, int k) {
        if (!court.hasBeast(b) || k < 0) {
            return BAD;
        }
        return now.isUnderWay(b) ? now.placeAhead(b, k) : NO;
    }

    public int meet(int b, int c) {
        if (!court.hasBeast(b) || !court.hasBeast(c) || b == c) {
            return BAD;
        }
        return foresight.hoursTillMeeting(now, b, c);
    }

    // ---- what was told

    public int told(int b, int s) {
        if (!court.hasBeast(b) || !isVerdict(s)) {
            return BAD;
        }
        return now.carries(b) ? now.verdictsOfSign(b, s) : NO;
    }

    public int who(int d, int r, int what) {
        if (!court.hasDoor(d) || !isVerdict(r) || what < 0 || what > 1) {
            return BAD;
        }
        int amount = 0;
        int first = NONE;
        for (int b = 0; b < court.beasts(); b++) {
            int verdicts = foresight.verdictsReadAs(now, b, d, r);
            amount += Integer.bitCount(verdicts);
            if (first == NONE && verdicts != 0) {
                first = 10 * b + lowestBit(verdicts);
            }
        }
        return what == 0 ? amount : first;
    }

    // ---- balking, years

    public int balks(int b, int n, int x, int part) {
        if (!court.hasBeast(b) || n < 0 || n > MOST_BALKED || x < 0 || x > TENTHS
            || part < 0 || part > 1) {
            return BAD;
        }
        int above = balking.weightOf(now, b, n, x);
        int below = Balking.power(n);
        int divisor = Balking.commonDivisor(above, below);
        // below is never 0, so there is a divisor
        return divisor == 0 ? NONE : (part == 0 ? above : below) / divisor;
    }

    public int year(int z, int n, int what) {
        if (z < 0 || z > LAST_YEAR || n < 1 || n > MOST_OF_YEAR) {
            return BAD;
        }
        switch (what) {
            case 0: return foresight.afterYear(now, z, n).amount(STANDS);
            case 1: return foresight.afterYear(now, z, n).readInSum();
            default: return BAD;
        }
    }

    public int keep() {
        if (kept.size() == MOST_KEPT) {
            return FULL;
        }
        kept.push(now);
        return kept.size();
    }

    public int back() {
        if (!kept.pop(now)) {
            return NO;
        }
        past.clear();
        return kept.size();
    }

    public int count(int what) {
        switch (what) {
            case 0: return court.places();
            case 1: return court.doors();
            case 2: return court.beasts();
            case 3: return court.ways();
            case 4: return now.hours();
            case 5: return now.amount(FREE);
            case 6: return now.amount(GOES);
            case 7: return now.amount(STANDS);
            case 8: return now.amount(GOES_HOME);
            case 9: return now.carrotsInAll();
            case 10: return past.size();
            case 11: return kept.size();
            case 12: return text.length();
            default: return BAD;
        }
    }

    private static boolean isVerdict(int v) {
        return v >= 0 && v <= LAST_VERDICT;
    }

    private static int lowestBit(int verdicts) {
        for (int v = 0; v < VERDICTS; v++) {
            if ((verdicts >> v & 1) == 1) {
                return v;
            }
        }
        return NONE;
    }

    /** Opens the court that the text tells, which has no fault. */
    private void open() {
        scribe.firstFault(text, court);
        court.measure();
        now.gather();
        past.clear();
        kept.clear();
    }

    /** Rows of numbers, read and written only where they have a place. */
    private static final class Rows {
        static int at(int[] row, int i) {
            return i >= 0 && i < row.length ? row[i] : 0;
        }

        static void put(int[] row, int i, int value) {
            if (i >= 0 && i < row.length) {
                row[i] = value;
            }
        }

        static void clear(int[] row) {
            for (int i = 0; i < row.length; i++) {
                row[i] = 0;
            }
        }
    }

    /** The text that is being written. */
    private static final class Letters {
        private final char[] signs = new char[MOST_LETTERS];
        private int length = 0;

        boolean add(char sign) {
            if (length < 0 || length >= signs.length) {
                return false;
            }
            signs[length] = sign;
            length++;
            return true;
        }

        char at(int i) {
            return i >= 0 && i < length && i < signs.length ? signs[i] : ' ';
        }

        int length() {
            return length;
        }

        void clear() {
            length = 0;
        }
    }

    /** Reads the items of a text into a court. */
    private static final class Scribe {
        private static final int MOST_NUMBERS = 3, MOST_FIGURES = 2;

        private final int[] numbers = new int[MOST_NUMBERS];
        private int amount = 0;
        private int behind = 0;

        /** Where the first item begins that is not so, or NONE; the court has all ahead of it. */
        int firstFault(Letters text, Court court) {
            court.clear();
            boolean onlyPlaces = true;
            int start = 0;
            for (int items = 0; items < MOST_LETTERS && start < text.length(); items++) {
                char letter = text.at(start);
                onlyPlaces = onlyPlaces && letter == 'n';
                if (letter == 'n' && !onlyPlaces || !split(text, start) || !take(letter, court)) {
                    return start;
                }
                start = behind;
            }
            return NONE;
        }

        /** Finds the numbers of the item and its end; false if it is not whole. */
        private boolean split(Letters text, int start) {
            amount = 0;
            int value = 0;
            int figures = 0;
            for (int i = start + 1; i < text.length(); i++) {
                char sign = text.at(i);
                if (sign >= '0' && sign <= '9' && figures < MOST_FIGURES) {
                    value = value * 10 + (sign - '0');
                    figures++;
                } else if ((sign == ',' || sign == ';') && figures > 0 && amount < MOST_NUMBERS) {
                    Rows.put(numbers, amount, value);
                    amount++;
                    value = 0;
                    figures = 0;
                    if (sign == ';') {
                        behind = i + 1;
                        return true;
                    }
                } else {
                    return false;
                }
            }
            return false;
        }

        private boolean take(char letter, Court court) {
            int first = Rows.at(numbers, 0);
            int second = Rows.at(numbers, 1);
            int third = Rows.at(numbers, 2);
            switch (letter) {
                case 'n': return amount == 1 && court.takePlaces(first);
                case 'w': return amount == 3 && court.takeWay(first, second, third);
                case 'd': return amount == 2 && court.takeDoor(first, second);
                case 'b': return amount == 3 && court.takeBeast(first, second, third);
                case 'c': return amount == 2 && court.takeCarrots(first, second);
                case 'm': return amount == 1 && court.takeMare(first);
                default: return false;
            }
        }
    }

    /** What a text tells, and the paths that follow from it. */
    private static final class Court {
        private static final int LAST_KIND = 3, LONGEST_WAY = 9, SLOWEST_PACE = 3;
        // above every sum of ways along a path
        private static final int FAR = 1000;

        private final int[] lengths = new int[MOST_PLACES * MOST_PLACES];
        private final int[] distances = new int[MOST_PLACES * MOST_PLACES];
        private final int[] hops = new int[MOST_PLACES * MOST_PLACES];
        private final int[] doorKinds = new int[MOST_DOORS];
        private final int[] doorPlaces = new int[MOST_DOORS];
        private final int[] kinds = new int[MOST_BEASTS];
        private final int[] paces = new int[MOST_BEASTS];
        private final int[] moods = new int[MOST_BEASTS];
        private final int[] carrotsLaid = new int[MOST_PLACES];
        private final int[] mares = new int[MOST_PLACES];
        private int places = PLACES_UNTOLD;
        private int doors = 0;
        private int beasts = 0;

        void clear() {
            Rows.clear(lengths);
            Rows.clear(carrotsLaid);
            Rows.clear(mares);
            places = PLACES_UNTOLD;
            doors = 0;
            beasts = 0;
        }

        boolean takePlaces(int n) {
            if (n < 1 || n > MOST_PLACES) {
                return false;
            }
            places = n;
            return true;
        }

        boolean takeWay(int a, int b, int length) {
            if (!hasPlace(a) || !hasPlace(b) || a == b || length < 1 || length > LONGEST_WAY) {
                return false;
            }
            Rows.put(lengths, pair(a, b), length);
            Rows.put(lengths, pair(b, a), length);
            return true;
        }

        boolean takeDoor(int kind, int x) {
            if (doors >= MOST_DOORS || kind < 0 || kind > LAST_KIND || !hasPlace(x)) {
                return false;
            }
            Rows.put(doorKinds, doors, kind);
            Rows.put(doorPlaces, doors, x);
            doors++;
            return true;
        }

        boolean takeBeast(int kind, int pace, int mood) {
            if (beasts >= MOST_BEASTS || kind < 0 || kind > LAST_KIND
                || pace < 1 || pace > SLOWEST_PACE || mood < 0 || mood >= MOODS) {
                return false;
            }
            Rows.put(kinds, beasts, kind);
            Rows.put(paces, beasts, pace);
            Rows.put(moods, beasts, mood);
            beasts++;
            return true;
        }

        boolean takeCarrots(int x, int c) {
            if (!hasPlace(x) || c < 0 || c > MOST_CARROTS) {
                return false;
            }
            Rows.put(carrotsLaid, x, c);
            return true;
        }

        boolean takeMare(int x) {
            if (!hasPlace(x)) {
                return false;
            }
            Rows.put(mares, x, 1);
            return true;
        }

        /** Finds all distances, and the next place of every path. */
        void measure() {
            for (int a = 0; a < places; a++) {
                for (int b = 0; b < places; b++) {
                    int length = lengthOf(a, b);
                    Rows.put(distances, pair(a, b), a == b ? 0 : length == 0 ? FAR : length);
                }
            }
            for (int over = 0; over < places; over++) {
                for (int a = 0; a < places; a++) {
                    for (int b = 0; b < places; b++) {
                        int sum = distance(a, over) + distance(over, b);
                        Rows.put(distances, pair(a, b), Math.min(sum, distance(a, b)));
                    }
                }
            }
            for (int a = 0; a < places; a++) {
                for (int b = 0; b < places; b++) {
                    Rows.put(hops, pair(a, b), lowestHop(a, b));
                }
            }
        }

        private int lowestHop(int from, int to) {
            for (int over = 0; over < places; over++) {
                int length = lengthOf(from, over);
                if (length > 0 && length + distance(over, to) == distance(from, to)) {
                    return over;
                }
            }
            return NONE;
        }

        private static int pair(int a, int b) {
            return a * MOST_PLACES + b;
        }

        private int distance(int a, int b) {
            return Rows.at(distances, pair(a, b));
        }

        /** L of the way between both, 0 if there is none. */
        int lengthOf(int a, int b) {
            return Rows.at(lengths, pair(a, b));
        }

        boolean isReached(int from, int to) {
            return distance(from, to) < FAR;
        }

        int hop(int from, int to) {
            return Rows.at(hops, pair(from, to));
        }

        int ways() {
            int amount = 0;
            for (int a = 0; a < places; a++) {
                for (int b = a + 1; b < places; b++) {
                    amount += lengthOf(a, b) > 0 ? 1 : 0;
                }
            }
            return amount;
        }

        int places() {
            return places;
        }

        int doors() {
            return doors;
        }

        int beasts() {
            return beasts;
        }

        boolean hasPlace(int x) {
            return x >= 0 && x < places;
        }

        boolean hasDoor(int d) {
            return d >= 0 && d < doors;
        }

        boolean hasBeast(int b) {
            return b >= 0 && b < beasts;
        }

        boolean hasMare(int x) {
            return Rows.at(mares, x) == 1;
        }

        int doorKind(int d) {
            return Rows.at(doorKinds, d);
        }

        int doorPlace(int d) {
            return Rows.at(doorPlaces, d);
        }

        int kind(int b) {
            return Rows.at(kinds, b);
        }

        int pace(int b) {
            return Rows.at(paces, b);
        }

        int firstMood(int b) {
            return Rows.at(moods, b);
        }

        int firstCarrots(int x) {
            return Rows.at(carrotsLaid, x);
        }
    }

    /** All that changes by the hour: the beasts, the carrots and the hours gone by. */
    private static final class Herd {
        static final int MOOD = 0, DOING = 1, SPOT = 2, TOWARD = 3, LEFT = 4, DOOR = 5;
        static final int VERDICT = 6, EATEN = 7, LINGERED = 8;

        private static final int SENT_MOOD = 9, GOAL = 10, FIELDS = 11;
        private static final int CARROTS = MOST_BEASTS * FIELDS, HOURS = CARROTS + MOST_PLACES;
        private static final int LEAST_STRONG_MOOD = 5, LEAST_TO_CONSTABLE = 4;
        private static final int WAIT_TO_EAT = 1, WAIT_WITH_MARE = 2, LOST_WITH_MARE = 2;

        private final Court court;
        // one row for all, so that a copy is one step
        private final int[] cells = new int[HOURS + 1];

        Herd(Court court) {
            this.court = court;
        }

        void copy(Herd other) {
            System.arraycopy(other.cells, 0, cells, 0, cells.length);
        }

        int get(int b, int field) {
            int i = b * FIELDS + field;
            return i >= 0 && i < cells.length ? cells[i] : 0;
        }

        private void set(int b, int field, int value) {
            int i = b * FIELDS + field;
            if (i >= 0 && i < cells.length) {
                cells[i] = value;
            }
        }

        int carrotsIn(int x) {
            return Rows.at(cells, CARROTS + x);
        }

        void putCarrots(int x, int c) {
            Rows.put(cells, CARROTS + x, c);
        }

        int hours() {
            return Rows.at(cells, HOURS);
        }

        /** As a court opens: all are free in it. */
        void gather() {
            Rows.clear(cells);
            for (int b = 0; b < court.beasts(); b++) {
                set(b, MOOD, court.firstMood(b));
                set(b, DOING, FREE);
                set(b, SPOT, COURT_HOUSE);
                set(b, TOWARD, NONE);
                set(b, DOOR, NONE);
            }
            for (int x = 0; x < court.places(); x++) {
                putCarrots(x, court.firstCarrots(x));
            }
        }

        boolean is(int b, int doing) {
            return get(b, DOING) == doing;
        }

        boolean carries(int b) {
            return is(b, GOES) || is(b, STANDS);
        }

        boolean isUnderWay(int b) {
            return is(b, GOES) || is(b, GOES_HOME);
        }

        boolean isIn(int b, int x) {
            return get(b, SPOT) == x && get(b, TOWARD) == NONE;
        }

        boolean canBeSent(int b, int d) {
            return is(b, FREE) && court.isReached(get(b, SPOT), court.doorPlace(d));
        }

        void dispatch(int b, int v, int d) {
            int mood = get(b, MOOD);
            set(b, SENT_MOOD, mood);
            set(b, MOOD, (mood + 1) % MOODS);
            set(b, DOING, GOES);
            set(b, GOAL, court.doorPlace(d));
            set(b, DOOR, d);
            set(b, VERDICT, v);
            set(b, EATEN, 0);
            set(b, LINGERED, 0);
        }

        void callHome(int b) {
            set(b, DOING, GOES_HOME);
            set(b, GOAL, COURT_HOUSE);
            set(b, DOOR, NONE);
        }

        /** An hour goes by, for all but the one that balks (NONE: for all). */
        void goOn(int balker) {
            for (int b = 0; b < court.beasts(); b++) {
                if (b != balker && isUnderWay(b)) {
                    move(b);
                }
            }
            Rows.put(cells, HOURS, hours() + 1);
        }

        private void move(int b) {
            int goal = get(b, GOAL);
            int left = get(b, LEFT);
            if (get(b, TOWARD) == NONE) {
                int spot = get(b, SPOT);
                if (left > 0) {
                    set(b, LEFT, left - 1);
                    return;
                }
                if (spot == goal) {
                    end(b);
                    return;
                }
                int ahead = court.hop(spot, goal);
                set(b, TOWARD, ahead);
                left = court.lengthOf(spot, ahead) * court.pace(b);
            }
            set(b, LEFT, left - 1);
            if (left <= 1) {
                arrive(b, get(b, TOWARD), goal);
            }
        }

        private void arrive(int b, int x, int goal) {
            set(b, SPOT, x);
            set(b, TOWARD, NONE);
            int kind = court.kind(b);
            int wait = 0;
            if (carrotsIn(x) > 0 && kind != OLD) {
                putCarrots(x, carrotsIn(x) - 1);
                set(b, EATEN, get(b, EATEN) + 1);
                wait += WAIT_TO_EAT;
            }
            if (court.hasMare(x) && (kind == DONKEY || kind == FOAL)) {
                set(b, LINGERED, get(b, LINGERED) + 1);
                wait += WAIT_WITH_MARE;
            }
            if (x == goal) {
                end(b);
            } else {
                set(b, LEFT, wait);
            }
        }

        private void end(int b) {
            set(b, DOING, get(b, DOING) == GOES ? STANDS : FREE);
        }

        /** How one that carries a verdict would stand now, had it been this one. */
        int signOf(int b, int verdict) {
            int sign = verdict;
            int mood = get(b, SENT_MOOD);
            if (court.kind(b) == MULE && mood % 2 == 1) {
                sign = LAST_VERDICT - sign;
            }
            if (court.kind(b) == FOAL && mood >= LEAST_STRONG_MOOD) {
                sign = Math.min(sign + 1, LAST_VERDICT);
            }
            return Math.max(sign - get(b, EATEN) - LOST_WITH_MARE * get(b, LINGERED), 0);
        }

        int readOf(int b) {
            return readOf(b, get(b, VERDICT));
        }

        /** What would be read of one that carries a verdict, had it been this one. */
        int readOf(int b, int verdict) {
            int sign = signOf(b, verdict);
            switch (court.doorKind(get(b, DOOR))) {
                case BLIND: return sign - sign % 2;
                case CONSTABLE: return Math.max(sign, LEAST_TO_CONSTABLE);
                case LAWYER: return sign / 2;
                default: return sign;
            }
        }

        /** The verdicts, as bits, by which its sign would be s. */
        int verdictsOfSign(int b, int s) {
            int bits = 0;
            for (int v = 0; v < VERDICTS; v++) {
                bits |= signOf(b, v) == s ? 1 << v : 0;
            }
            return bits;
        }

        /** The k-th place on the way of one that is under way, or NONE. */
        int placeAhead(int b, int k) {
            int goal = get(b, GOAL);
            int place = get(b, TOWARD);
            if (place == NONE) {
                place = get(b, SPOT) == goal ? NONE : court.hop(get(b, SPOT), goal);
            }
            // a path has no place twice
            for (int i = 0; i < k && i < MOST_PLACES && place != NONE; i++) {
                place = place == goal ? NONE : court.hop(place, goal);
            }
            return place;
        }

        int beastsIn(int x) {
            int amount = 0;
            for (int b = 0; b < court.beasts(); b++) {
                amount += isIn(b, x) ? 1 : 0;
            }
            return amount;
        }

        int amount(int doing) {
            int amount = 0;
            for (int b = 0; b < court.beasts(); b++) {
                amount += is(b, doing) ? 1 : 0;
            }
            return amount;
        }

        int carrotsInAll() {
            int sum = 0;
            for (int x = 0; x < court.places(); x++) {
                sum += carrotsIn(x);
            }
            return sum;
        }

        int readInSum() {
            int sum = 0;
            for (int b = 0; b < court.beasts(); b++) {
                sum += is(b, STANDS) ? readOf(b) : 0;
            }
            return sum;
        }
    }

    /** Herds as they stood, the latest on top; the oldest falls off when one more comes. */
    private static final class Shelf {
        private final Herd[] herds;
        private int top = 0;
        private int size = 0;

        Shelf(Court court, int most) {
            herds = new Herd[most > 0 ? most : 1];
            for (int i = 0; i < herds.length; i++) {
                herds[i] = new Herd(court);
            }
        }

        int size() {
            return size;
        }

        void clear() {
            size = 0;
        }

        void push(Herd herd) {
            top = top + 1 < herds.length ? top + 1 : 0;
            size = Math.min(size + 1, herds.length);
            if (top >= 0 && top < herds.length && herds[top] != null) {
                herds[top].copy(herd);
            }
        }

        /** Puts the latest into the herd; false if there is none. */
        boolean pop(Herd herd) {
            if (size == 0) {
                return false;
            }
            if (top >= 0 && top < herds.length && herds[top] != null) {
                herd.copy(herds[top]);
            }
            top = top > 0 ? top - 1 : herds.length - 1;
            size--;
            return true;
        }
    }

    /** What comes, tried on a herd of its own. */
    private static final class Foresight {
        private static final int Z_STEP = 7919, K_STEP = 6151, DRAWS = 65521;
        private static final int LAST_TO_SEND = 2, TO_CALL_HOME = 3, TO_LAY_CARROTS = 4;
        private static final int CARROT_AMOUNTS = 10;

        private final Court court;
        private final Herd trial;

        Foresight(Court court) {
            this.court = court;
            trial = new Herd(court);
        }

        int hoursTill(Herd now, int b) {
            trial.copy(now);
            return awaitBeast(b);
        }

        int readOf(Herd now, int b) {
            trial.copy(now);
            return awaitBeast(b) == NONE ? NONE : trial.readOf(b);
        }

        /** Lets hours go by till it stands: how many; NONE if that takes too long. */
        private int awaitBeast(int b) {
            for (int hours = 0; hours < MOST_AWAITED; hours++) {
                if (trial.is(b, STANDS)) {
                    return hours;
                }
                trial.goOn(NONE);
            }
            return trial.is(b, STANDS) ? MOST_AWAITED : NONE;
        }

        /** Sends it in a trial; false if it can not be. */
        private boolean trySending(Herd now, int b, int v, int d) {
            trial.copy(now);
            if (!trial.canBeSent(b, d)) {
                return false;
            }
            trial.dispatch(b, v, d);
            return true;
        }

        int rightBeasts(Herd now, int d, int v) {
            int bits = 0;
            for (int b = 0; b < court.beasts(); b++) {
                if (trySending(now, b, v, d) && awaitBeast(b) != NONE && trial.readOf(b) == v) {
                    bits |= 1 << b;
                }
            }
            return bits;
        }

        int soonestBeast(Herd now, int d, int v) {
            int best = NONE;
            int fewest = MOST_AWAITED + 1;
            for (int b = 0; b < court.beasts(); b++) {
                int hours = trySending(now, b, v, d) ? awaitBeast(b) : NONE;
                if (hours != NONE && hours < fewest && trial.readOf(b) == v) {
                    best = b;
                    fewest = hours;
                }
            }
            return best;
        }

        /** The verdicts, as bits, with which it would be read so, sent now. */
        int verdictsReadAs(Herd now, int b, int d, int read) {
            // no verdict changes where a beast goes, so one trial serves all
            if (!trySending(now, b, 0, d) || awaitBeast(b) == NONE) {
                return 0;
            }
            int bits = 0;
            for (int v = 0; v < VERDICTS; v++) {
                bits |= trial.readOf(b, v) == read ? 1 << v : 0;
            }
            return bits;
        }

        int luringPlace(Herd now, int b) {
            trial.copy(now);
            // where it does not come, none can be less
            int least = awaitBeast(b) == NONE ? 0 : trial.readOf(b);
            int best = NONE;
            for (int x = 0; x < court.places(); x++) {
                trial.copy(now);
                trial.putCarrots(x, Math.min(now.carrotsIn(x) + 1, MOST_CARROTS));
                if (awaitBeast(b) != NONE && trial.readOf(b) < least) {
                    least = trial.readOf(b);
                    best = x;
                }
            }
            return best;
        }

        int hoursTillMeeting(Herd now, int b, int c) {
            trial.copy(now);
            for (int hours = 0; hours <= MOST_TILL_MEETING; hours++) {
                int spot = trial.get(b, Herd.SPOT);
                if (trial.isIn(b, spot) && trial.isIn(c, spot)) {
                    return hours;
                }
                trial.goOn(NONE);
            }
            return NONE;
        }

        Herd afterYear(Herd now, int z, int n) {
            trial.copy(now);
            for (int k = 0; k < n; k++) {
                act(drawOf(z, k));
                trial.goOn(NONE);
            }
            return trial;
        }

        private static int drawOf(int z, int k) {
            long x = (long) Z_STEP * z + (long) K_STEP * k + 1;
            return (int) (x * x % DRAWS);
        }

        private void act(int draw) {
            int b = wrap(draw / 8, court.beasts());
            int d = wrap(draw / 512, court.doors());
            int deed = draw % 8;
            if (deed <= LAST_TO_SEND && trial.canBeSent(b, d)) {
                trial.dispatch(b, draw / 64 % VERDICTS, d);
            } else if (deed == TO_CALL_HOME && trial.is(b, STANDS)) {
                trial.callHome(b);
            } else if (deed == TO_LAY_CARROTS) {
                trial.putCarrots(wrap(draw / 8, court.places()), draw / 64 % CARROT_AMOUNTS);
            }
        }

        private static int wrap(int number, int amount) {
            return amount > 0 ? number % amount : 0;
        }
    }

    /** Finds who should go to which door. */
    private static final class Dealer {
        private final Court court;
        private final Herd trial;
        private final int[] hand = new int[MOST_DOORS];
        private final int[] best = new int[MOST_DOORS];

        Dealer(Court court) {
            this.court = court;
            trial = new Herd(court);
        }

        /** Of the best deal: hours in sum; NONE if there is no deal. */
        int fewestHours(Herd now, int v) {
            int fewest = NONE;
            int hands = 1;
            for (int d = 0; d < court.doors(); d++) {
                hands *= court.beasts();
            }
            for (int i = 0; i < hands; i++) {
                pick(i);
                int hours = sendHand(now, v) ? awaitHand(v) : NONE;
                if (hours != NONE && (fewest == NONE || hours < fewest)) {
                    fewest = hours;
                    System.arraycopy(hand, 0, best, 0, best.length);
                }
            }
            return fewest;
        }

        int beastAt(int d) {
            return Rows.at(best, d);
        }

        /** The i-th hand, with the last door's beast changing first. */
        private void pick(int i) {
            int rest = i;
            int beasts = court.beasts();
            for (int d = court.doors() - 1; d >= 0 && beasts > 0; d--) {
                Rows.put(hand, d, rest % beasts);
                rest /= beasts;
            }
        }

        /** Sends each to its door; false if one can not be (as it is there twice), or be right. */
        private boolean sendHand(Herd now, int v) {
            trial.copy(now);
            for (int d = 0; d < court.doors(); d++) {
                int b = Rows.at(hand, d);
                if (!trial.canBeSent(b, d)) {
                    return false;
                }
                trial.dispatch(b, v, d);
                // what is read only falls on the way
                if (trial.readOf(b) < v) {
                    return false;
                }
            }
            return true;
        }

        /** Hours in sum till all of the hand stand; NONE if they are not all read so. */
        private int awaitHand(int v) {
            int sum = 0;
            for (int hours = 0; hours < MOST_AWAITED && going() > 0; hours++) {
                sum += going();
                trial.goOn(NONE);
            }
            for (int d = 0; d < court.doors(); d++) {
                int b = Rows.at(hand, d);
                if (!trial.is(b, STANDS) || trial.readOf(b) != v) {
                    return NONE;
                }
            }
            return sum;
        }

        private int going() {
            int amount = 0;
            for (int d = 0; d < court.doors(); d++) {
                amount += trial.is(Rows.at(hand, d), GOES) ? 1 : 0;
            }
            return amount;
        }
    }

    /** The chance that one stands, if it may balk in each hour. */
    private static final class Balking {
        // one herd for each hour that may go by, so that both branches start from it
        private final Herd[] levels = new Herd[MOST_BALKED + 1];

        Balking(Court court) {
            for (int i = 0; i < levels.length; i++) {
                levels[i] = new Herd(court);
            }
        }

        /** Of ten to the n: by how many it stands behind n hours. */
        int weightOf(Herd now, int b, int n, int x) {
            if (n < 0 || n >= levels.length || levels[n] == null) {
                return 0;
            }
            levels[n].copy(now);
            return weigh(b, n, x);
        }

        /** The same, with n hours to go from the herd of level n. */
        private int weigh(int b, int n, int x) {
            if (n < 0 || n >= levels.length || levels[n] == null || !levels[n].carries(b)) {
                return 0;
            }
            if (levels[n].is(b, STANDS)) {
                return power(n);
            }
            if (n == 0 || levels[n - 1] == null) {
                return 0;
            }
            levels[n - 1].copy(levels[n]);
            levels[n - 1].goOn(NONE);
            int going = weigh(b, n - 1, x);
            levels[n - 1].copy(levels[n]);
            levels[n - 1].goOn(b);
            int staying = weigh(b, n - 1, x);
            return (TENTHS - x) * going + x * staying;
        }

        static int power(int n) {
            int power = 1;
            for (int i = 0; i < n && i < MOST_BALKED; i++) {
                power *= TENTHS;
            }
            return power;
        }

        static int commonDivisor(int a, int b) {
            int divisor = a;
            int rest = b;
            for (int i = 0; i < 100 && rest != 0; i++) {
                int smaller = divisor % rest;
                divisor = rest;
                rest = smaller;
            }
            return divisor;
        }
    }
}
