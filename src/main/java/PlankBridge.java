/** A bridge that is a plank longer each time somebody comes to its end, and the people who go over it. */
public final class PlankBridge {
    public static final int BAD = -1, NOT = -2, FULL = -3, NONE = -4, NULL = -11, CAST = -12, INDEX = -13, SIZE = -14;

    private static final int MOST_PEOPLE = 10, MOST_PLANKS = 400, FIRST_PLANKS = 20;
    private static final int LAST_MINUTE = 999, NEVER = 1000, NIGHT_EVERY = 240;
    private static final int BELOW_ZERO = 100000, BEYOND_ALL = 1000000;

    // The laws, by their numbers.
    private static final int GROWS = 0, COUNT = 1, SPAN = 2, NIGHT = 3, ROPES = 4, FORD = 5, LAWS = 6;
    private static final int[] LAW_FIRST = {1, 0, 5, 0, 99, 0};
    private static final int[] LAW_LEAST = {0, 0, 1, 0, 0, 0};
    private static final int[] LAW_MOST = {9, 2, 60, 50, 99, 200};
    private static final int AS_ONE = 0, EACH = 1, BY_SPAN = 2;

    // What is told of a person, by its numbers; the first five are told when it comes.
    private static final int COMES = 0, BANK = 1, KIND = 2, PACE = 3, TRIPS = 4, STAYS = 5, HOLDS = 6;
    private static final int TOLD_FIRST = 5, TOLD = 7;
    private static final int[] TOLD_LEAST = {0, 0, 0, 1, 1, 0};
    private static final int[] TOLD_MOST = {499, 1, 3, 20, 6, 60};
    private static final int RUNNING = 1, LOADED = 2, SPITING = 3;
    private static final int NOBODY = -1;

    private static final int MOST_BYTES = 80, FIRST_FAULT = -20, MOST_IN_TEXT = 6, AT_TEXT_END = -1, TOO_MUCH = 100000;
    private static final String LAW_LETTERS = "gcwnrf", BANK_LETTERS = "ns", KIND_LETTERS = "wrls";

    private static final int SHEETS = 4, MOST_ITEMS = 24, MOST_ROWS = 4, BYTES = 0, SHORTS = 1, INTS = 2, NOTHING = -1;

    private static final int MOST_CHOSEN = 6, MOST_GAP = 60, MOST_TRIED = 1000;
    private static final int WHEN_LAST = -1, THE_SUM = -2;

    // Where a walker is: away, till it starts in a minute that is due; by the ford, till it is there likewise.
    private static final int AWAY = 0, WALKS = 1, AT_END = 2, BY_FORD = 3, IS_OVER = 4;
    private static final int ROPES_BY_LAW = -1, LONG_AGO = -1000;

    private final State now = new State();
    private final State kept = new State();
    private boolean hasImage;
    private final Tape tape = new Tape();
    private final int[] read = new int[MOST_IN_TEXT * TOLD_FIRST];
    private final Day day = new Day();
    private final Search search = new Search();
    private final Sheet[] sheets = new Sheet[SHEETS];

    public PlankBridge() {
        for (int i = 0; i < SHEETS; i++) {
            sheets[i] = new Sheet();
        }
    }

    // ---- 1 the bridge, people

    public int planks(int v) {
        if (v < 1 || v > MOST_PLANKS) {
            return BAD;
        }
        int was = now.firstPlanks;
        now.firstPlanks = v;
        return was;
    }

    public int rule(int what, int v) {
        if (!isWithin(what, LAWS) || v < LAW_LEAST[what] || v > LAW_MOST[what]) {
            return BAD;
        }
        int was = now.law[what];
        now.law[what] = v;
        return was;
    }

    public int person(int minute, int bank, int kind, int pace, int trips) {
        read[COMES] = minute;
        read[BANK] = bank;
        read[KIND] = kind;
        read[PACE] = pace;
        read[TRIPS] = trips;
        if (!now.mayCome(read, 0)) {
            return BAD;
        }
        if (!now.hasRoom(1)) {
            return FULL;
        }
        now.enlist(read, 0);
        return now.size - 1;
    }

    public int told(int person, int what) {
        if (!now.has(person) || !isWithin(what, TOLD)) {
            return BAD;
        }
        if (what == PACE) {
            return now.paceOf(person);
        }
        int answer = now.folk[person][what];
        return what == HOLDS && answer == NOBODY ? NONE : answer;
    }

    public int stay(int person, int minutes) {
        if (!now.has(person) || minutes < TOLD_LEAST[STAYS] || minutes > TOLD_MOST[STAYS]) {
            return BAD;
        }
        int was = now.folk[person][STAYS];
        now.folk[person][STAYS] = minutes;
        return was;
    }

    public int hold(int person, int other) {
        if (!now.has(person) || other == person || other != NOBODY && !now.has(other)) {
            return BAD;
        }
        int was = now.folk[person][HOLDS];
        now.folk[person][HOLDS] = other;
        return 1 + was;
    }

    public int clear() {
        int was = now.size;
        now.size = 0;
        return was;
    }

    public int type(long w, int n) {
        if (n < 1 || n > 8) {
            return BAD;
        }
        for (int i = 0; i < n; i++) {
            int sign = lowByte(w, i);
            if (sign < 32 || sign > 126) {
                return BAD;
            }
        }
        if (tape.size + n > MOST_BYTES) {
            return FULL;
        }
        for (int i = n - 1; i >= 0; i--) {
            tape.put(lowByte(w, i));
        }
        return tape.size;
    }

    public int laws() {
        int answer = tape.readLaws(read);
        tape.size = 0;
        if (answer < 0) {
            return answer;
        }
        for (int what = 0; what < LAWS; what++) {
            if (read[what] >= 0) {
                now.law[what] = read[what];
            }
        }
        return answer;
    }

    public int people() {
        int answer = tape.readPeople(read);
        tape.size = 0;
        if (answer < 0) {
            return answer;
        }
        return enlistAll(read, 0, answer);
    }

    public int count(int what) {
        if (what < 0 || what > 2) {
            return BAD;
        }
        if (what == 0) {
            return now.size;
        }
        int trips = 0;
        int atFirstBank = 0;
        for (int i = 0; i < now.size; i++) {
            trips += now.folk[i][TRIPS];
            atFirstBank += now.folk[i][BANK] == 0 ? 1 : 0;
        }
        return what == 1 ? trips : atFirstBank;
    }

    // ---- 2 days

    public int fate(int person, int what) {
        if (!now.has(person) || what < 0 || what > 4) {
            return BAD;
        }
        day.load(now);
        day.run(LAST_MINUTE);
        Walker one = day.walkers[person];
        switch (what) {
            case 0:
                return one.place == IS_OVER ? one.over : NONE;
            case 1:
                return one.made;
            case 2:
                return one.fords;
            case 3:
                return one.waited;
            default:
                return one.ropeless;
        }
    }

    public int at(int minute, int what) {
        if (minute < 0 || minute > LAST_MINUTE || what < 0 || what > 5) {
            return BAD;
        }
        day.load(now);
        day.run(minute);
        switch (what) {
            case 0:
                return day.planksNow;
            case 1:
                return day.onBridgeFrom(0);
            case 2:
                return day.onBridgeFrom(1);
            case 3:
                return day.whoIs(AT_END);
            case 4:
                return day.ropesLeft;
            default:
                return day.whoIs(IS_OVER);
        }
    }

    public int gone(int person, int minute) {
        if (!now.has(person) || minute < 0 || minute > LAST_MINUTE) {
            return BAD;
        }
        day.load(now);
        day.run(minute);
        Walker one = day.walkers[person];
        return one.isOnBridge() ? one.way : NONE;
    }

    public int all(int what) {
        if (what < 0 || what > 4) {
            return BAD;
        }
        day.load(now);
        day.run(LAST_MINUTE);
        switch (what) {
            case 0:
                return day.planksNow;
            case 1:
                return day.sumOfOver();
            case 2:
                return day.lastOver();
            case 3:
                return day.counted;
            default:
                return day.sumOfFords();
        }
    }

    // ---- 3 what would be

    public int soonest(int some, int i) {
        if (!search.choose(some, now.size) || i < THE_SUM || i >= search.size) {
            return BAD;
        }
        search.findCompanies(day, now);
        return i < 0 ? search.found(i) : search.best[i];
    }

    public int order(int some, int gap, int i) {
        if (!search.choose(some, now.size) || gap < 0 || gap > MOST_GAP || i < THE_SUM || i >= search.size) {
            return BAD;
        }
        search.findRow(day, now, gap);
        return i < 0 ? search.found(i) : search.bestPerson(i);
    }

    public int worth(int person, int other) {
        if (!now.has(person) || !now.has(other) || person == other) {
            return BAD - BELOW_ZERO;
        }
        day.load(now);
        day.run(LAST_MINUTE);
        int asItIs = day.sumOfOver();
        return asItIs - sumIfHeld(person, other);
    }

    public int waits(int what) {
        if (what < 0 || what > 1) {
            return BAD;
        }
        if (now.size < 2) {
            return NOT;
        }
        int least = BEYOND_ALL;
        int answer = 0;
        for (int person = 0; person < now.size; person++) {
            for (int other = 0; other < now.size; other++) {
                int sum = person == other ? BEYOND_ALL : sumIfHeld(person, other);
                if (sum < least) {
                    least = sum;
                    answer = what == 0 ? person : other;
                }
            }
        }
        return answer;
    }

    public int handed(int one, int other) {
        if (!now.has(one) || !now.has(other) || now.folk[one][BANK] == now.folk[other][BANK]) {
            return BAD;
        }
        return 2 * cutUp(now.firstPlanks, now.paceOf(one) + now.paceOf(other));
    }

    public int ford(int person) {
        if (!now.has(person)) {
            return BAD;
        }
        int takes = now.law[FORD];
        return takes == 0 ? NOT : now.paceOf(person) * takes + 1;
    }

    public int shared(int r, int what) {
        if (r < 0 || r > MOST_PEOPLE || what < 0 || what > 1) {
            return BAD;
        }
        int best = 0;
        int least = BEYOND_ALL;
        day.load(now);
        for (int set = 0; set < 1 << now.size; set++) {
            if (Integer.bitCount(set) > r) {
                continue;
            }
            day.roped = set;
            day.run(LAST_MINUTE);
            int sum = day.sumOfOver();
            if (sum < least || sum == least && Integer.bitCount(set) < Integer.bitCount(best)) {
                least = sum;
                best = set;
            }
        }
        return what == 0 ? best : least;
    }

    public int late(int pace, int planks, int minutes, int what) {
        if (pace < 1 || pace > 40 || planks < 1 || planks > MOST_PLANKS) {
            return BAD;
        }
        if (minutes < 1 || minutes > 400 || what < 0 || what > 1) {
            return BAD;
        }
        int grows = now.law[GROWS];
        if (grows == 0) {
            return NOT;
        }
        int most = pace * minutes - planks;
        if (most < 0) {
            return NONE;
        }
        // A minute earlier the planks were still more than it had gone.
        int atLeast = cutUp(Math.max(0, pace * (minutes - 1) + 1 - planks), grows);
        int atMost = most / grows;
        if (atLeast > atMost) {
            return NONE;
        }
        return what == 0 ? atLeast : atMost;
    }

    public int other(int count, int what) {
        if (count < AS_ONE || count > BY_SPAN || what < 0 || what > 1) {
            return BAD;
        }
        day.load(now);
        day.law[COUNT] = count;
        day.run(LAST_MINUTE);
        return what == 0 ? day.planksNow : day.sumOfOver();
    }

    public int image() {
        kept.become(now);
        hasImage = true;
        return 1;
    }

    public int restore() {
        if (!hasImage) {
            return NONE;
        }
        now.become(kept);
        return 1;
    }

    // ---- 4 sheets

    public int crowd(int sheet, int lane, int from, int n) {
        if (n < 1 || n > MOST_ROWS) {
            return BAD;
        }
        int refused = refusedRow(sheet, lane, from, n * TOLD_FIRST);
        if (refused != 0) {
            return refused;
        }
        int[] items = sheets[sheet].items;
        for (int i = 0; i < n; i++) {
            if (!now.mayCome(items, from + i * TOLD_FIRST)) {
                return NOT;
            }
        }
        return enlistAll(items, from, n);
    }

    public int sheet(int sheet, int lane, int n) {
        if (!isWithin(sheet, SHEETS) || lane < BYTES || lane > INTS || n > MOST_ITEMS) {
            return BAD;
        }
        if (n < 0) {
            return SIZE;
        }
        sheets[sheet].begin(lane, n);
        return n;
    }

    public int drop(int sheet) {
        if (!isWithin(sheet, SHEETS)) {
            return BAD;
        }
        if (sheets[sheet].lane == NOTHING) {
            return NULL;
        }
        int had = sheets[sheet].size;
        sheets[sheet].begin(NOTHING, 0);
        return had;
    }

    public int item(int sheet, int lane, int i, int v) {
        int refused = refusedRow(sheet, lane, i, 1);
        if (refused != 0) {
            return refused;
        }
        sheets[sheet].put(i, v);
        return 1;
    }

    public int film(int sheet, int lane, int from) {
        int refused = refusedRow(sheet, lane, from, now.size);
        if (refused != 0) {
            return refused;
        }
        day.load(now);
        day.run(LAST_MINUTE);
        for (int i = 0; i < now.size; i++) {
            sheets[sheet].put(from + i, day.walkers[i].over);
        }
        return now.size;
    }

    // ---- what several calls need

    private static boolean isWithin(int v, int end) {
        return v >= 0 && v < end;
    }

    private static int lowByte(long w, int i) {
        return (int) (w >> 8 * i) & 255;
    }

    /** What by a divisor, cut up; 0 if there is nothing to divide by. */
    private static int cutUp(int what, int by) {
        return by < 1 ? 0 : (what + by - 1) / by;
    }

    private static int half(int pace) {
        return Math.max(1, pace / 2);
    }

    /** n rows of five items that may come do, if all have room. */
    private int enlistAll(int[] items, int from, int n) {
        if (!now.hasRoom(n)) {
            return FULL;
        }
        for (int i = 0; i < n; i++) {
            now.enlist(items, from + i * TOLD_FIRST);
        }
        return n;
    }

    private int sumIfHeld(int person, int other) {
        day.load(now);
        day.walkers[person].mates = 1 << other;
        day.run(LAST_MINUTE);
        return day.sumOfOver();
    }

    /** Why n items of a sheet, from one on, can't be used as ones of a lane; 0 if they can. */
    private int refusedRow(int sheet, int lane, int from, int n) {
        if (!isWithin(sheet, SHEETS) || lane < BYTES || lane > INTS) {
            return BAD;
        }
        Sheet row = sheets[sheet];
        if (row.lane == NOTHING) {
            return NULL;
        }
        if (row.lane != lane) {
            return CAST;
        }
        return from < 0 || from > row.size - n ? INDEX : 0;
    }

    /** What an image keeps: planks at minute 0, laws, people. */
    private static final class State {
        int firstPlanks = FIRST_PLANKS;
        int size;
        final int[] law = new int[LAWS];
        final int[][] folk = new int[MOST_PEOPLE][TOLD];

        State() {
            System.arraycopy(LAW_FIRST, 0, law, 0, LAWS);
        }

        boolean has(int person) {
            return isWithin(person, size);
        }

        boolean hasRoom(int n) {
            return size + n <= MOST_PEOPLE;
        }

        /** Whether five items, from one on, are as told of a person. */
        boolean mayCome(int[] items, int from) {
            if (from < 0 || from > items.length - TOLD_FIRST) {
                return false;
            }
            for (int what = 0; what < TOLD_FIRST; what++) {
                int v = items[from + what];
                if (v < TOLD_LEAST[what] || v > TOLD_MOST[what]) {
                    return false;
                }
            }
            return true;
        }

        /** Takes a person that may come and has room. */
        void enlist(int[] items, int from) {
            if (!hasRoom(1) || !mayCome(items, from)) {
                return;
            }
            System.arraycopy(items, from, folk[size], 0, TOLD_FIRST);
            folk[size][STAYS] = 0;
            folk[size][HOLDS] = NOBODY;
            size++;
        }

        boolean isSpiting(int person) {
            return folk[person][KIND] == SPITING;
        }

        int paceOf(int person) {
            int pace = folk[person][PACE];
            switch (folk[person][KIND]) {
                case RUNNING:
                case SPITING:
                    return pace * 2;
                case LOADED:
                    return half(pace);
                default:
                    return pace;
            }
        }

        void become(State like) {
            firstPlanks = like.firstPlanks;
            size = like.size;
            System.arraycopy(like.law, 0, law, 0, LAWS);
            for (int i = 0; i < MOST_PEOPLE; i++) {
                System.arraycopy(like.folk[i], 0, folk[i], 0, TOLD);
            }
        }
    }

    /** A row of a lane; of the lane NOTHING when the sheet is missing. */
    private static final class Sheet {
        int lane = NOTHING;
        int size;
        final int[] items = new int[MOST_ITEMS];

        void begin(int newLane, int n) {
            lane = newLane;
            size = n;
            for (int i = 0; i < MOST_ITEMS; i++) {
                items[i] = 0;
            }
        }

        void put(int i, int v) {
            if (!isWithin(i, size)) {
                return;
            }
            switch (lane) {
                case BYTES:
                    items[i] = (byte) v;
                    break;
                case SHORTS:
                    items[i] = (short) v;
                    break;
                default:
                    items[i] = v;
            }
        }
    }

    /** The tape, and how it is read: place is the next byte, or the one that can't stand there. */
    private static final class Tape {
        int size;
        private int place;
        private final int[] bytes = new int[MOST_BYTES];

        void put(int sign) {
            if (size < MOST_BYTES) {
                bytes[size] = sign;
                size++;
            }
        }

        /** The laws that the tape tells (-1: not told), and how many, or a fault. */
        int readLaws(int[] found) {
            place = 0;
            int told = 0;
            for (int what = 0; what < LAWS; what++) {
                found[what] = -1;
                if (peek() == LAW_LETTERS.charAt(what)) {
                    place++;
                    found[what] = readNumber(LAW_LEAST[what], LAW_MOST[what]);
                    if (found[what] < 0) {
                        return fault();
                    }
                    told++;
                }
            }
            return told == 0 || peek() != AT_TEXT_END ? fault() : told;
        }

        /** The people that the tape tells, five items each, and how many, or a fault. */
        int readPeople(int[] found) {
            place = 0;
            for (int n = 1; n <= MOST_IN_TEXT; n++) {
                if (!readPerson(found, (n - 1) * TOLD_FIRST)) {
                    return fault();
                }
                int next = peek();
                if (next == AT_TEXT_END) {
                    return n;
                }
                if (next != ';' || n == MOST_IN_TEXT) {
                    return fault();
                }
                place++;
            }
            return fault();
        }

        private boolean readPerson(int[] found, int from) {
            if (from < 0 || from > found.length - TOLD_FIRST) {
                return false;
            }
            found[from + COMES] = readNumber(TOLD_LEAST[COMES], TOLD_MOST[COMES]);
            if (found[from + COMES] < 0) {
                return false;
            }
            found[from + BANK] = readLetter(BANK_LETTERS);
            if (found[from + BANK] < 0) {
                return false;
            }
            found[from + KIND] = readLetter(KIND_LETTERS);
            if (found[from + KIND] < 0) {
                return false;
            }
            found[from + PACE] = readNumber(TOLD_LEAST[PACE], TOLD_MOST[PACE]);
            if (found[from + PACE] < 0) {
                return false;
            }
            found[from + TRIPS] = readTrips();
            return found[from + TRIPS] > 0;
        }

        private int readTrips() {
            if (peek() != 't') {
                return 1;
            }
            place++;
            int trips = peek() - '0';
            if (trips < TOLD_LEAST[TRIPS] || trips > TOLD_MOST[TRIPS]) {
                return -1;
            }
            place++;
            return trips;
        }

        /** Which of the letters stands next, or -1. */
        private int readLetter(String letters) {
            int next = peek();
            int which = next == AT_TEXT_END ? -1 : letters.indexOf((char) next);
            if (which >= 0) {
                place++;
            }
            return which;
        }

        /** The number that stands next, or -1, at its first byte. */
        private int readNumber(int least, int most) {
            peek();
            int first = place;
            int value = 0;
            while (place < size && bytes[place] >= '0' && bytes[place] <= '9') {
                // A long row of digits must not wrap around to a number that may be.
                value = Math.min(value * 10 + bytes[place] - '0', TOO_MUCH);
                place++;
            }
            if (place == first || value < least || value > most) {
                place = first;
                return -1;
            }
            return value;
        }

        /** The next byte that is no blank. */
        private int peek() {
            while (place < size && bytes[place] == ' ') {
                place++;
            }
            return place < size ? bytes[place] : AT_TEXT_END;
        }

        private int fault() {
            return FIRST_FAULT - place;
        }
    }

    /** One who goes over: as told for the whole day, then as it goes. */
    private static final class Walker {
        int comes, firstBank, pace, trips, stays;
        boolean spiting;
        /** Who counts as one person with it; whom it waits for at the end (a set). */
        int company, mates;

        int place, bank, made, due, way, tripPace;
        int over, fords, waited, ropeless;

        Walker() {
        }

        void begin() {
            place = AWAY;
            bank = firstBank;
            due = comes;
            made = 0;
            way = 0;
            tripPace = pace;
            over = NEVER;
            fords = 0;
            waited = 0;
            ropeless = 0;
        }

        boolean isOnBridge() {
            return place == WALKS || place == AT_END;
        }

        /** The next minute in which it does more than to walk on or wait. */
        int nextTurn(int minute, int planksNow) {
            switch (place) {
                case WALKS:
                    return minute + Math.max(1, cutUp(planksNow - way, tripPace));
                case AWAY:
                case BY_FORD:
                    return Math.max(minute + 1, due);
                default:
                    return NEVER;
            }
        }

        void pass(int minutes) {
            if (place == WALKS) {
                way += tripPace * minutes;
            } else if (place == AT_END) {
                waited += minutes;
            }
        }

        void comeOver(int minute) {
            made++;
            bank = 1 - bank;
            if (made >= trips) {
                place = IS_OVER;
                over = minute;
            } else {
                place = AWAY;
                due = minute + stays;
            }
        }

        void startByFord(int there) {
            place = BY_FORD;
            due = there;
        }

        void stepOn(boolean hasRope) {
            place = WALKS;
            way = 0;
            tripPace = hasRope ? pace : half(pace);
            ropeless += hasRope ? 0 : 1;
        }
    }

    /** The minutes. Minutes in which nobody starts or comes anywhere are passed in one. */
    private static final class Day {
        final Walker[] walkers = new Walker[MOST_PEOPLE];
        final int[] law = new int[LAWS];
        /** Who has ropes, as many as it takes (a set), or ROPES_BY_LAW. */
        int roped;
        int planksNow, ropesLeft, counted;
        private int size, firstPlanks;
        private final int[] lastCount = new int[2];

        Day() {
            for (int i = 0; i < MOST_PEOPLE; i++) {
                walkers[i] = new Walker();
            }
        }

        void load(State state) {
            loadBridge(state, state.size);
            roped = ROPES_BY_LAW;
            for (int i = 0; i < size; i++) {
                int[] told = state.folk[i];
                Walker one = walkers[i];
                loadWalker(state, i, i);
                one.comes = told[COMES];
                one.firstBank = told[BANK];
                one.trips = told[TRIPS];
                one.stays = told[STAYS];
                one.mates = told[HOLDS] == NOBODY ? 0 : 1 << told[HOLDS];
            }
        }

        /** Some of the people, who go over once from one bank, with ropes, by day and with no ford. */
        void loadOnce(State state, int[] who, int n) {
            loadBridge(state, Math.min(n, who.length));
            law[NIGHT] = 0;
            law[FORD] = 0;
            roped = (1 << size) - 1;
            for (int i = 0; i < size; i++) {
                Walker one = walkers[i];
                loadWalker(state, i, who[i]);
                one.comes = 0;
                one.firstBank = 0;
                one.trips = 1;
                one.stays = 0;
                one.mates = 0;
            }
        }

        private void loadBridge(State state, int n) {
            size = Math.min(n, MOST_PEOPLE);
            firstPlanks = state.firstPlanks;
            System.arraycopy(state.law, 0, law, 0, LAWS);
        }

        private void loadWalker(State state, int i, int person) {
            walkers[i].pace = state.paceOf(person);
            walkers[i].spiting = state.isSpiting(person);
            walkers[i].company = i;
        }

        void run(int last) {
            begin();
            for (int minute = 0; minute <= last; minute++) {
                haveNight(minute);
                walk();
                stepOff(minute);
                comeByFord(minute);
                start(minute);
                int quiet = Math.min(quietAfter(minute), last - minute);
                for (int i = 0; i < size; i++) {
                    walkers[i].pass(quiet);
                }
                minute += quiet;
            }
        }

        private void begin() {
            planksNow = firstPlanks;
            ropesLeft = law[ROPES];
            counted = 0;
            lastCount[0] = LONG_AGO;
            lastCount[1] = LONG_AGO;
            for (int i = 0; i < size; i++) {
                walkers[i].begin();
            }
        }

        /** How many minutes behind one pass in which all on the bridge walk on or wait, and that is all. */
        private int quietAfter(int minute) {
            int next = (minute / NIGHT_EVERY + 1) * NIGHT_EVERY;
            for (int i = 0; i < size; i++) {
                next = Math.min(next, walkers[i].nextTurn(minute, planksNow));
            }
            return Math.max(0, next - minute - 1);
        }

        private void haveNight(int minute) {
            if (minute > 0 && minute % NIGHT_EVERY == 0) {
                planksNow = Math.max(1, planksNow - law[NIGHT]);
            }
        }

        private void walk() {
            for (int i = 0; i < size; i++) {
                Walker one = walkers[i];
                if (one.place == WALKS) {
                    one.pass(1);
                    one.place = one.way >= planksNow ? AT_END : WALKS;
                }
            }
        }

        private void stepOff(int minute) {
            int counts = stepOffFrom(0, minute) + stepOffFrom(1, minute);
            counted += counts;
            planksNow = Math.min(MOST_PLANKS, planksNow + law[GROWS] * counts);
        }

        /** What counts of those who have come from a bank and step off now. */
        private int stepOffFrom(int bank, int minute) {
            int companies = 0;
            int spiting = 0;
            for (int i = 0; i < size; i++) {
                Walker one = walkers[i];
                if (one.place != AT_END || one.bank != bank) {
                    continue;
                }
                if (isHeldBack(one)) {
                    one.waited++;
                    continue;
                }
                one.comeOver(minute);
                if (one.spiting) {
                    spiting++;
                } else {
                    companies |= 1 << one.company;
                }
            }
            return spiting + countOf(Integer.bitCount(companies), bank, minute);
        }

        private boolean isHeldBack(Walker one) {
            if (one.mates == 0) {
                return false;
            }
            for (int i = 0; i < size; i++) {
                Walker mate = walkers[i];
                if ((one.mates >> i & 1) == 1 && mate.place == WALKS && mate.bank == one.bank) {
                    return true;
                }
            }
            return false;
        }

        private int countOf(int companies, int bank, int minute) {
            if (companies == 0 || law[COUNT] == EACH) {
                return companies;
            }
            if (law[COUNT] == BY_SPAN && lastCount[bank] >= minute - law[SPAN]) {
                return 0;
            }
            lastCount[bank] = minute;
            return 1;
        }

        private void comeByFord(int minute) {
            for (int i = 0; i < size; i++) {
                Walker one = walkers[i];
                if (one.place == BY_FORD && one.due == minute) {
                    one.fords++;
                    one.comeOver(minute);
                }
            }
        }

        private void start(int minute) {
            for (int i = 0; i < size; i++) {
                Walker one = walkers[i];
                if (one.place != AWAY || one.due != minute) {
                    continue;
                }
                if (law[FORD] > 0 && cutUp(planksNow, one.pace) > law[FORD]) {
                    one.startByFord(minute + law[FORD]);
                } else {
                    one.stepOn(takeRope(i));
                }
            }
        }

        private boolean takeRope(int i) {
            if (roped != ROPES_BY_LAW) {
                return (roped >> i & 1) == 1;
            }
            if (ropesLeft == 0) {
                return false;
            }
            ropesLeft--;
            return true;
        }

        int onBridgeFrom(int bank) {
            int set = 0;
            for (int i = 0; i < size; i++) {
                if (walkers[i].isOnBridge() && walkers[i].bank == bank) {
                    set |= 1 << i;
                }
            }
            return set;
        }

        int whoIs(int place) {
            int set = 0;
            for (int i = 0; i < size; i++) {
                if (walkers[i].place == place) {
                    set |= 1 << i;
                }
            }
            return set;
        }

        int sumOfOver() {
            int sum = 0;
            for (int i = 0; i < size; i++) {
                sum += walkers[i].over;
            }
            return sum;
        }

        int lastOver() {
            int last = 0;
            for (int i = 0; i < size; i++) {
                last = Math.max(last, walkers[i].over);
            }
            return last;
        }

        int sumOfFords() {
            int sum = 0;
            for (int i = 0; i < size; i++) {
                sum += walkers[i].fords;
            }
            return sum;
        }
    }

    /** Looks for the best row (of companies, or of who starts when) of some people, trying rows by their order. */
    private static final class Search {
        int size;
        final int[] best = new int[MOST_CHOSEN];
        private int bestLast, bestSum;
        private final int[] who = new int[MOST_CHOSEN];
        private final int[] row = new int[MOST_CHOSEN];

        Search() {
        }

        /** Takes the people of a set, by numbers, if it is one of 1 to 6 of them. */
        boolean choose(int some, int told) {
            if (some <= 0 || some >= 1 << told || Integer.bitCount(some) > MOST_CHOSEN) {
                return false;
            }
            size = 0;
            for (int person = 0; person < told && size < MOST_CHOSEN; person++) {
                if ((some >> person & 1) == 1) {
                    who[size] = person;
                    size++;
                }
            }
            return true;
        }

        void findCompanies(Day day, State state) {
            begin(day, state);
            for (int i = 0; i < size; i++) {
                row[i] = 0;
            }
            for (int tried = 0; tried < MOST_TRIED; tried++) {
                for (int i = 0; i < size; i++) {
                    day.walkers[i].company = row[i];
                    day.walkers[i].mates = companyOf(i);
                }
                keepIfBetter(day);
                if (!makeNextCompanies()) {
                    return;
                }
            }
        }

        void findRow(Day day, State state, int gap) {
            begin(day, state);
            for (int i = 0; i < size; i++) {
                row[i] = i;
            }
            for (int tried = 0; tried < MOST_TRIED; tried++) {
                for (int i = 0; i < size; i++) {
                    day.walkers[row[i]].comes = i * gap;
                }
                keepIfBetter(day);
                if (!makeNextRow()) {
                    return;
                }
            }
        }

        int found(int what) {
            return what == WHEN_LAST ? bestLast : bestSum;
        }

        int bestPerson(int i) {
            return who[best[i]];
        }

        private void begin(Day day, State state) {
            day.loadOnce(state, who, size);
            bestLast = BEYOND_ALL;
            bestSum = BEYOND_ALL;
        }

        private void keepIfBetter(Day day) {
            day.run(LAST_MINUTE);
            int last = day.lastOver();
            int sum = day.sumOfOver();
            if (last < bestLast || last == bestLast && sum < bestSum) {
                bestLast = last;
                bestSum = sum;
                System.arraycopy(row, 0, best, 0, size);
            }
        }

        private int companyOf(int one) {
            int set = 0;
            for (int i = 0; i < size; i++) {
                if (row[i] == row[one]) {
                    set |= 1 << i;
                }
            }
            return set;
        }

        /** Companies are numbered as they first occur: a number is one more than those ahead of it at most. */
        private boolean makeNextCompanies() {
            for (int i = size - 1; i > 0; i--) {
                if (row[i] <= mostAhead(i)) {
                    row[i]++;
                    for (int k = i + 1; k < size; k++) {
                        row[k] = 0;
                    }
                    return true;
                }
            }
            return false;
        }

        private int mostAhead(int i) {
            int most = 0;
            for (int k = 0; k < i; k++) {
                most = Math.max(most, row[k]);
            }
            return most;
        }

        private boolean makeNextRow() {
            int i = size - 2;
            while (i >= 0 && row[i] > row[i + 1]) {
                i--;
            }
            if (i < 0) {
                return false;
            }
            int k = size - 1;
            while (k > i && row[k] < row[i]) {
                k--;
            }
            swap(i, k);
            int right = size - 1;
            for (int left = i + 1; left < right; left++) {
                swap(left, right);
                right--;
            }
            return true;
        }

        private void swap(int i, int k) {
            int was = row[i];
            row[i] = row[k];
            row[k] = was;
        }
    }
}
