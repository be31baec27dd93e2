/**
 * A row of readings with gaps, in which told patterns are looked for, be they drawn out or pressed
 * together. The document's numbered promises say what each public call answers and changes.
 *
 * All rows are made with the object and used again, so that no call makes anything.
 */
public final class WarpDesk {
    public static final int NONE = -1;

    private static final int ABSENT = -2;
    private static final int NO_READING = -1000;
    private static final int NO_VALUE = -1000000;
    // Above every DISTANCE that can be (31 places of at most 3,996 * 3,996 each).
    private static final int NO_LIMIT = 2147483647;

    private static final int MOST_BYTES = 2000;
    private static final int BYTES_A_FEED = 20;
    private static final int MOST_TOKENS = 400;
    private static final int MOST_PLACES = 160;
    private static final int MOST_QUERIES = 5;
    private static final int SHORTEST = 2;
    private static final int LONGEST = 16;
    private static final int GREATEST_READING = 999;

    private static final int BAND = 0;
    private static final int LEVEL = 1;
    private static final int COST = 2;
    private static final int APART = 3;

    private final Tape tape;
    private final Reader reader;
    private final Series series;
    private final Queries queries;
    private final Settings settings;
    private final Past past;
    private final Stand[] slots;
    private final Bench bench;
    private final Finder finder;
    private final Stretches stretches;

    public WarpDesk() {
        tape = new Tape();
        reader = new Reader(tape);
        series = new Series();
        queries = new Queries();
        settings = new Settings();
        past = new Past();
        slots = new Stand[] {new Stand(), new Stand(), new Stand()};
        bench = new Bench(series, queries, settings);
        finder = new Finder(bench);
        stretches = new Stretches(bench);
    }

    // ---- the tape and its text

    public int feed(int a, int b, int c, int d, int e) {
        if (tape.size > MOST_BYTES - BYTES_A_FEED) {
            return NONE;
        }
        tape.addFour(a);
        tape.addFour(b);
        tape.addFour(c);
        tape.addFour(d);
        tape.addFour(e);
        return tape.size;
    }

    public int back(int n) {
        if (n < 0 || n > tape.size) {
            return NONE;
        }
        tape.size -= n;
        return tape.size;
    }

    public int read() {
        int fault = reader.readText();
        tape.size = 0;
        if (fault == 0) {
            queries.takeFrom(reader.queries);
            goOnFrom(reader.draft);
            for (int slot = 0; slot < slots.length; slot++) {
                slots[slot].held = false;
            }
        }
        return fault;
    }

    public int place() {
        return reader.faultPlace;
    }

    public int cause() {
        return reader.faultCause;
    }

    // ---- the SERIES, the QUERIES and what is set

    public int at(int i) {
        return series.valueAt(i);
    }

    public int query(int query, int i) {
        return queries.valueAt(query, i);
    }

    public int push(int reading) {
        if (reading < -GREATEST_READING || reading > GREATEST_READING) {
            return NONE;
        }
        return appendPlace(reading);
    }

    public int gap() {
        return appendPlace(NO_READING);
    }

    private int appendPlace(int value) {
        if (!series.append(value)) {
            return NONE;
        }
        past.note(Past.APPENDED, 0, 0);
        return series.size;
    }

    public int mend(int i) {
        if (i < 1 || i >= series.size - 1 || series.hasReading(i)) {
            return NO_READING;
        }
        if (!series.hasReading(i - 1) || !series.hasReading(i + 1)) {
            return NO_READING;
        }
        int reading = Math.floorDiv(series.valueAt(i - 1) + series.valueAt(i + 1), 2);
        series.putAt(i, reading);
        past.note(Past.MENDED, i, 0);
        return reading;
    }

    public boolean drop(int n) {
        if (!series.cutFirst(n)) {
            return false;
        }
        past.note(Past.DROPPED, n, 0);
        return true;
    }

    public boolean set(int what, int value) {
        int old = settings.valueOf(what);
        if (!Settings.allows(what, value) || old == value) {
            return false;
        }
        settings.put(what, value);
        past.note(Past.CHANGED, what, old);
        return true;
    }

    public boolean undo() {
        if (!past.stepBack()) {
            return false;
        }
        int first = past.firstOfStep();
        switch (past.kindOfStep()) {
            case Past.APPENDED:
                series.cutLast();
                break;
            case Past.MENDED:
                series.putAt(first, NO_READING);
                break;
            case Past.DROPPED:
                series.bringBackFirst(first);
                break;
            default:
                settings.put(first, past.secondOfStep());
                break;
        }
        return true;
    }

    // ---- a WINDOW and a QUERY

    public int window(int s, int n, int what) {
        if (n < 1 || !series.hasWindow(s, n)) {
            return NO_VALUE;
        }
        switch (what) {
            case 0:
                return series.sumOf(s, n);
            case 1:
                return series.leastOf(s, n);
            case 2:
                return series.greatestOf(s, n);
            case 3:
                return Math.floorDiv(series.sumOf(s, n), n);
            default:
                return NO_VALUE;
        }
    }

    public int level(int s, int n, int i) {
        if (!isStretch(n) || i < 0 || i >= n || !series.hasWindow(s, n)) {
            return NO_VALUE;
        }
        bench.openWindow(s, n);
        return bench.fit.left[i];
    }

    public int distance(int query, int s) {
        return bench.openBoth(query, s) ? bench.fit.wholeDistance() : NONE;
    }

    public int bound(int query, int s, int what) {
        if (!bench.openBoth(query, s)) {
            return NONE;
        }
        switch (what) {
            case 0:
                return bench.fit.endsBound();
            case 1:
                return bench.fit.overBound();
            case 2:
                return bench.fit.backBound();
            default:
                return NONE;
        }
    }

    public int look(int query, int s, int limit, int what) {
        if (limit < 0 || what < 0 || what > 2 || !bench.openBoth(query, s)) {
            return NONE;
        }
        int how = bench.fit.lookAt(limit);
        if (what == 0) {
            return how;
        }
        return what == 1 ? bench.fit.cells : bench.fit.brokenRow;
    }

    public int way(int query, int s, int i) {
        if (!bench.openBoth(query, s)) {
            return NONE;
        }
        bench.fit.traceWay();
        return i == NONE ? bench.fit.wayLength : bench.fit.wayPlace(i);
    }

    public int lean(int query, int s, int what) {
        if (what < 0 || what > 1 || !bench.openBoth(query, s)) {
            return NONE;
        }
        bench.fit.traceWay();
        return what == 0 ? bench.fit.widestOfWay() : bench.fit.stepsInBoth();
    }

    public int alike(int query, int other) {
        if (!queries.has(query) || !queries.has(other)) {
            return NONE;
        }
        if (queries.lengthOf(query) != queries.lengthOf(other)) {
            return ABSENT;
        }
        bench.openQuery(query, settings.valueOf(BAND));
        bench.laySecondQuery(other);
        return bench.fit.wholeDistance();
    }

    public int whose(int s, int n) {
        return series.hasWindow(s, n) ? finder.nearestQuery(s, n) : NONE;
    }

    public int fired(int limit) {
        return limit < 0 ? NONE : finder.firedBits(limit);
    }

    // ---- all WINDOWS of a QUERY

    public int best(int query, int what) {
        if (what < 0 || what > 1 || !queries.has(query)) {
            return NONE;
        }
        finder.findBest(query, settings.valueOf(BAND));
        return what == 0 ? finder.bestWindow : finder.bestDistance;
    }

    public int search(int query, int what) {
        if (what < 0 || what >= Finder.TALLIES || !queries.has(query)) {
            return NONE;
        }
        finder.runSearch(query);
        return finder.tally[what];
    }

    public int match(int query, int i, int what) {
        if (i < 0 || what < 0 || what > 1 || !queries.has(query)) {
            return NONE;
        }
        finder.findMatches(query);
        return what == 0 ? finder.matchWindow(i) : finder.matchDistance(i);
    }

    public int within(int query, int limit) {
        if (limit < 0 || !queries.has(query)) {
            return NONE;
        }
        finder.findMatches(query);
        return finder.matchesWithin(limit);
    }

    public int cover(int query, int limit) {
        if (limit < 0 || !queries.has(query)) {
            return NONE;
        }
        finder.findMatches(query);
        return finder.placesWithin(limit, queries.lengthOf(query));
    }

    public int needs(int query, int s) {
        return bench.hasBoth(query, s) ? finder.neededBand(query, s) : NONE;
    }

    public int rank(int query, int s) {
        if (!bench.hasBoth(query, s)) {
            return NONE;
        }
        finder.scan(query);
        return finder.rankOf(s);
    }

    public int kth(int query, int k, int what) {
        if (k < 0 || what < 0 || what > 1 || !queries.has(query)) {
            return NONE;
        }
        finder.scan(query);
        int s = finder.windowOfRank(k);
        return what == 0 ? s : finder.scannedDistance(s);
    }

    public int slack(int query) {
        return queries.has(query) ? finder.slackSum(query) : NONE;
    }

    public int turns(int query) {
        if (!queries.has(query)) {
            return NONE;
        }
        finder.scan(query);
        return finder.turnCount();
    }

    // ---- stretches of the SERIES

    private static boolean isStretch(int n) {
        return n >= SHORTEST && n <= LONGEST;
    }

    public int near(int s, int n, int what) {
        if (!isStretch(n) || what < 0 || what > 1 || !series.hasWindow(s, n)) {
            return NONE;
        }
        stretches.findNear(s, n);
        return what == 0 ? stretches.nearest : stretches.nearestDistance;
    }

    public int pair(int n, int what) {
        if (!isStretch(n) || what < 0 || what > 2) {
            return NONE;
        }
        stretches.findPair(n);
        if (what == 2) {
            return stretches.pairDistance;
        }
        return what == 0 ? stretches.pairLesser : stretches.pairGreater;
    }

    public int odd(int n, int what) {
        if (!isStretch(n) || what < 0 || what > 1) {
            return NONE;
        }
        stretches.findOdd(n);
        return what == 0 ? stretches.oddWindow : stretches.oddDistance;
    }

    public int flat(int n) {
        return n < 1 || n > MOST_PLACES ? NONE : series.flatWindows(n);
    }

    public int whole(int what) {
        if (what < 0 || what > 1) {
            return NONE;
        }
        int first = series.longestRunFirst();
        if (first < 0 || what == 0) {
            return first;
        }
        return series.runFrom(first);
    }

    // ---- SLOTS and counts

    public boolean hold(int slot) {
        if (slot < 0 || slot >= slots.length) {
            return false;
        }
        Stand stand = slots[slot];
        series.copyInto(stand);
        stand.settings.takeFrom(settings);
        stand.held = true;
        return true;
    }

    public boolean restore(int slot) {
        if (slot < 0 || slot >= slots.length || !slots[slot].held) {
            return false;
        }
        goOnFrom(slots[slot]);
        return true;
    }

    private void goOnFrom(Stand stand) {
        series.takeFrom(stand);
        settings.takeFrom(stand.settings);
        past.forget();
    }

    private int slotsHeld() {
        int held = 0;
        for (int slot = 0; slot < slots.length; slot++) {
            if (slots[slot].held) {
                held++;
            }
        }
        return held;
    }

    public int count(int what) {
        switch (what) {
            case 0: return series.size;
            case 1: return series.gapCount();
            case 2: return queries.size;
            case 3: return settings.valueOf(BAND);
            case 4: return settings.valueOf(LEVEL);
            case 5: return settings.valueOf(COST);
            case 6: return settings.valueOf(APART);
            case 7: return series.readingsAtEnd();
            case 8: return tape.size;
            case 9: return past.size;
            case 10: return series.sumOf(0, series.size);
            case 11: return slotsHeld();
            case 12: return series.greatestOf(0, series.size);
            case 13: return series.leastOf(0, series.size);
            case 14: return series.runFrom(0);
            default: return NONE;
        }
    }

    /** The bytes that were fed and not yet read, and their TOKENS, one at hand at a time. */
    private static final class Tape {
        static final int END = 0;
        static final int LETTERS = 1;
        static final int INT = 2;
        static final int SEMICOLON = 3;
        static final int MINUS = 4;
        static final int BAD = 5;
        private static final int MOST_LETTERS = 8;
        private static final int MOST_DIGITS = 4;

        private final int[] bytes = new int[MOST_BYTES];
        int size;
        int kind;
        int start;
        int value;
        // Which TOKEN is at hand, from 1 on.
        int number;
        private int behind;

        void addFour(int word) {
            for (int shift = 24; shift >= 0; shift -= 8) {
                if (size >= 0 && size < bytes.length) {
                    bytes[size] = (word >>> shift) & 255;
                    size++;
                }
            }
        }

        private int byteAt(int i) {
            return i >= 0 && i < size && i < bytes.length ? bytes[i] : NONE;
        }

        void toFirstToken() {
            behind = 0;
            number = 0;
            toNextToken();
        }

        void toNextToken() {
            start = behindBlanks(behind);
            number++;
            value = 0;
            int sign = byteAt(start);
            if (sign < 0) {
                kind = END;
                behind = start;
            } else if (isLetter(sign)) {
                takeLetters();
            } else if (isDigit(sign)) {
                takeDigits();
            } else {
                behind = start + 1;
                kind = sign == ';' ? SEMICOLON : sign == '-' ? MINUS : BAD;
            }
        }

        private int behindBlanks(int from) {
            for (int i = from; i < size; i++) {
                int sign = byteAt(i);
                if (sign != 9 && sign != 10 && sign != 13 && sign != 32) {
                    return i;
                }
            }
            return size;
        }

        private static boolean isLetter(int sign) {
            return sign >= 'a' && sign <= 'z';
        }

        private static boolean isDigit(int sign) {
            return sign >= '0' && sign <= '9';
        }

        private void takeLetters() {
            int i = start;
            while (i < size && isLetter(byteAt(i))) {
                i++;
            }
            behind = i;
            kind = behind - start <= MOST_LETTERS ? LETTERS : BAD;
        }

        private void takeDigits() {
            int i = start;
            while (i < size && isDigit(byteAt(i))) {
                // A longer one is no TOKEN, so its value may wrap.
                value = value * 10 + byteAt(i) - '0';
                i++;
            }
            behind = i;
            kind = behind - start <= MOST_DIGITS ? INT : BAD;
        }

        int lengthAtHand() {
            return behind - start;
        }

        boolean isWord(String word) {
            if (kind != LETTERS || lengthAtHand() != word.length()) {
                return false;
            }
            for (int i = 0; i < word.length(); i++) {
                if (byteAt(start + i) != word.charAt(i)) {
                    return false;
                }
            }
            return true;
        }

        boolean isSameAsAt(int other, int length) {
            if (length != lengthAtHand()) {
                return false;
            }
            for (int i = 0; i < length; i++) {
                if (byteAt(start + i) != byteAt(other + i)) {
                    return false;
                }
            }
            return true;
        }
    }

    /** Reads the tape into a draft, TOKEN by TOKEN, and tells the text's FAULT. */
    private static final class Reader {
        private static final int SYNTAX = 1;
        private static final int ROOM = 2;
        private static final int TWICE = 3;
        private static final int WRONG = 5;
        private static final int SHORT = 6;

        // What a TELL tells: BAND, LEVEL, COST, APART, or one of these.
        private static final int PLACES = 4;
        private static final int PATTERN = 5;

        // What may stand next.
        private static final int AT_TELL = 0;
        private static final int IN_SERIES = 1;
        private static final int AT_NAME = 2;
        private static final int IN_QUERY = 3;
        private static final int AT_NUMBER = 4;
        private static final int AT_CHOICE = 5;
        private static final int AT_END = 6;

        private final Tape tape;
        final Stand draft = new Stand();
        final Queries queries = new Queries();
        private final int[] nameStarts = new int[MOST_QUERIES];
        private final int[] nameLengths = new int[MOST_QUERIES];
        private int state;
        private int tell;
        private boolean isNegative;
        // READINGS and GAPS told whole in the 'series' or 'query' at hand; ABSENT elsewhere.
        private int told = ABSENT;
        private boolean isStopped;
        private int fault;
        int faultPlace = NONE;
        int faultCause = NONE;

        Reader(Tape tape) {
            this.tape = tape;
        }

        int readText() {
            begin();
            for (int n = 0; n <= MOST_TOKENS && !isStopped && tape.kind != Tape.END; n++) {
                // In this order, for at one place SYNTAX is told ahead of ROOM.
                if (!mayStand()) {
                    stop(SYNTAX);
                } else if (!hasRoom()) {
                    stop(ROOM);
                } else {
                    accept();
                    tape.toNextToken();
                }
            }
            if (!isStopped && state != AT_TELL) {
                stop(SYNTAX);
            }
            return fault;
        }

        private void begin() {
            draft.clear();
            queries.size = 0;
            state = AT_TELL;
            isNegative = false;
            told = ABSENT;
            isStopped = false;
            fault = 0;
            faultPlace = NONE;
            faultCause = NONE;
            tape.toFirstToken();
        }

        // SYNTAX and ROOM come ahead of every other FAULT, wherever that one stands.
        private void stop(int number) {
            isStopped = true;
            keepFault(number);
        }

        // Reading goes on, for a SYNTAX or ROOM further on would be told in its stead.
        private void mark(int number) {
            if (fault == 0) {
                keepFault(number);
            }
        }

        private void keepFault(int number) {
            fault = number;
            faultPlace = tape.start;
            faultCause = told;
        }

        private boolean mayStand() {
            switch (state) {
                case AT_TELL:
                    return tellAtHand() >= 0;
                case IN_SERIES:
                    return mayStandInRow() || (!isNegative && tape.isWord("gap"));
                case IN_QUERY:
                    return mayStandInRow();
                case AT_NAME:
                    return isNameAtHand();
                case AT_NUMBER:
                    return tape.kind == Tape.INT;
                case AT_CHOICE:
                    return choiceAtHand() >= 0;
                default:
                    return tape.kind == Tape.SEMICOLON;
            }
        }

        // WORDS and NAMES are two kinds of TOKENS, so letters that are a WORD are no NAME.
        private boolean isNameAtHand() {
            boolean isWord = tellAtHand() >= 0 || levelAtHand() >= 0 || costAtHand() >= 0 || tape.isWord("gap");
            return tape.kind == Tape.LETTERS && !isWord;
        }

        private boolean mayStandInRow() {
            if (tape.kind == Tape.INT) {
                return true;
            }
            return !isNegative && (tape.kind == Tape.MINUS || tape.kind == Tape.SEMICOLON);
        }

        private boolean hasRoom() {
            if (tape.number > MOST_TOKENS) {
                return false;
            }
            switch (state) {
                case AT_TELL:
                    return tellAtHand() != PATTERN || queries.size < MOST_QUERIES;
                case IN_SERIES:
                    return tape.kind == Tape.SEMICOLON || draft.size < MOST_PLACES;
                case IN_QUERY:
                    return tape.kind == Tape.SEMICOLON || told < LONGEST;
                default:
                    return true;
            }
        }

        private void accept() {
            switch (state) {
                case AT_TELL:
                    beginTell();
                    break;
                case AT_NAME:
                    acceptName();
                    break;
                case AT_NUMBER:
                    acceptNumber();
                    break;
                case AT_CHOICE:
                    draft.settings.put(tell, choiceAtHand());
                    state = AT_END;
                    break;
                case AT_END:
                    state = AT_TELL;
                    break;
                default:
                    acceptInRow();
                    break;
            }
        }

        private int tellAtHand() {
            if (tape.isWord("series")) {
                return PLACES;
            }
            if (tape.isWord("query")) {
                return PATTERN;
            }
            if (tape.isWord("band")) {
                return BAND;
            }
            if (tape.isWord("level")) {
                return LEVEL;
            }
            if (tape.isWord("cost")) {
                return COST;
            }
            return tape.isWord("apart") ? APART : NONE;
        }

        private int choiceAtHand() {
            return tell == LEVEL ? levelAtHand() : costAtHand();
        }

        private int levelAtHand() {
            if (tape.isWord("none")) {
                return Settings.AS_IT_IS;
            }
            if (tape.isWord("mean")) {
                return Settings.BY_MEAN;
            }
            if (tape.isWord("first")) {
                return Settings.BY_FIRST;
            }
            return tape.isWord("range") ? Settings.BY_RANGE : NONE;
        }

        private int costAtHand() {
            if (tape.isWord("plain")) {
                return Settings.PLAIN;
            }
            return tape.isWord("square") ? Settings.SQUARE : NONE;
        }

        private void beginTell() {
            tell = tellAtHand();
            switch (tell) {
                case PLACES:
                    state = IN_SERIES;
                    told = 0;
                    break;
                case PATTERN:
                    state = AT_NAME;
                    told = 0;
                    break;
                case BAND:
                case APART:
                    state = AT_NUMBER;
                    break;
                default:
                    state = AT_CHOICE;
                    break;
            }
        }

        private void acceptName() {
            int q = queries.size;
            for (int other = 0; other < q && other < MOST_QUERIES; other++) {
                if (tape.isSameAsAt(nameStarts[other], nameLengths[other])) {
                    mark(TWICE);
                }
            }
            if (q >= 0 && q < MOST_QUERIES) {
                nameStarts[q] = tape.start;
                nameLengths[q] = tape.lengthAtHand();
                queries.open();
            }
            state = IN_QUERY;
        }

        private void acceptNumber() {
            if (!Settings.allows(tell, tape.value)) {
                mark(WRONG);
            }
            draft.settings.put(tell, tape.value);
            state = AT_END;
        }

        private void acceptInRow() {
            if (tape.kind == Tape.SEMICOLON) {
                if (state == IN_QUERY && told < SHORTEST) {
                    mark(SHORT);
                }
                state = AT_TELL;
                told = ABSENT;
            } else if (tape.kind == Tape.MINUS) {
                isNegative = true;
            } else if (tape.kind == Tape.INT) {
                if (tape.value > GREATEST_READING) {
                    mark(WRONG);
                }
                keepInRow(isNegative ? -tape.value : tape.value);
            } else {
                keepInRow(NO_READING);
            }
        }

        private void keepInRow(int value) {
            if (state == IN_SERIES) {
                draft.append(value);
            } else {
                queries.append(value);
            }
            told++;
            isNegative = false;
        }
    }

    /** BAND, LEVEL, COST and APART, by their numbers. */
    private static final class Settings {
        static final int AS_IT_IS = 0;
        static final int BY_MEAN = 1;
        static final int BY_FIRST = 2;
        static final int BY_RANGE = 3;
        static final int PLAIN = 0;
        static final int SQUARE = 1;
        private static final int[] LOWEST = {0, 0, 0, 1};
        private static final int[] HIGHEST = {15, 3, 1, 99};
        private static final int[] UNTOLD = {2, 0, 0, 8};

        private final int[] values = UNTOLD.clone();

        static boolean allows(int what, int value) {
            return what >= 0 && what < LOWEST.length && what < HIGHEST.length
                && value >= LOWEST[what] && value <= HIGHEST[what];
        }

        int valueOf(int what) {
            return what >= 0 && what < values.length ? values[what] : NONE;
        }

        void put(int what, int value) {
            if (what >= 0 && what < values.length) {
                values[what] = value;
            }
        }

        void clear() {
            for (int what = 0; what < UNTOLD.length; what++) {
                put(what, UNTOLD[what]);
            }
        }

        void takeFrom(Settings other) {
            for (int what = 0; what < values.length; what++) {
                values[what] = other.valueOf(what);
            }
        }
    }

    /** All that goes on but the QUERIES: what a SLOT holds, and what a text tells. */
    private static final class Stand {
        private final int[] places = new int[MOST_PLACES];
        int size;
        final Settings settings = new Settings();
        // The QUERIES need not be held: only a new text changes them, and then no SLOT holds anything.
        boolean held;

        void clear() {
            size = 0;
            settings.clear();
        }

        void append(int value) {
            if (size >= 0 && size < places.length) {
                places[size] = value;
                size++;
            }
        }

        int valueAt(int i) {
            return i >= 0 && i < size && i < places.length ? places[i] : NO_READING;
        }
    }

    /** The SERIES; a GAP is kept as NO_READING, which no READING can be. */
    private static final class Series {
        // What was dropped stays in the ring while it can be undone: at most 160 places and the
        // 40 that may have come since, so a power of two above 200 holds all.
        private static final int RING = 256;
        private static final int RING_MASK = RING - 1;

        private final int[] ring = new int[RING];
        private int first;
        int size;

        void takeFrom(Stand stand) {
            first = 0;
            size = 0;
            for (int i = 0; i < stand.size; i++) {
                append(stand.valueAt(i));
            }
        }

        void copyInto(Stand stand) {
            stand.size = 0;
            for (int i = 0; i < size; i++) {
                stand.append(valueAt(i));
            }
        }

        int valueAt(int i) {
            return i >= 0 && i < size ? ring[(first + i) & RING_MASK] : NO_READING;
        }

        void putAt(int i, int value) {
            if (i >= 0 && i < size) {
                ring[(first + i) & RING_MASK] = value;
            }
        }

        boolean append(int value) {
            if (size >= MOST_PLACES) {
                return false;
            }
            ring[(first + size) & RING_MASK] = value;
            size++;
            return true;
        }

        void cutLast() {
            if (size > 0) {
                size--;
            }
        }

        boolean cutFirst(int n) {
            if (n < 1 || n > size) {
                return false;
            }
            first = (first + n) & RING_MASK;
            size -= n;
            return true;
        }

        void bringBackFirst(int n) {
            if (n >= 1 && n <= MOST_PLACES - size) {
                first = (first - n) & RING_MASK;
                size += n;
            }
        }

        boolean hasReading(int i) {
            return valueAt(i) != NO_READING;
        }

        boolean hasWindow(int s, int n) {
            if (s < 0 || s >= size || n < 1 || n > size - s) {
                return false;
            }
            for (int i = 0; i < n; i++) {
                if (!hasReading(s + i)) {
                    return false;
                }
            }
            return true;
        }

        void copyWindow(int s, int n, int[] row) {
            for (int i = 0; i < n && i < row.length; i++) {
                row[i] = valueAt(s + i);
            }
        }

        int sumOf(int s, int n) {
            int sum = 0;
            for (int i = 0; i < n; i++) {
                if (hasReading(s + i)) {
                    sum += valueAt(s + i);
                }
            }
            return sum;
        }

        int leastOf(int s, int n) {
            int least = NO_READING;
            for (int i = 0; i < n; i++) {
                int value = valueAt(s + i);
                if (value != NO_READING && (least == NO_READING || value < least)) {
                    least = value;
                }
            }
            return least;
        }

        // A GAP is below every READING, so it needs no passing over here.
        int greatestOf(int s, int n) {
            int greatest = NO_READING;
            for (int i = 0; i < n; i++) {
                greatest = Math.max(greatest, valueAt(s + i));
            }
            return greatest;
        }

        int gapCount() {
            int gaps = 0;
            for (int i = 0; i < size; i++) {
                if (!hasReading(i)) {
                    gaps++;
                }
            }
            return gaps;
        }

        int runFrom(int s) {
            int run = 0;
            for (int i = s; i < size && hasReading(i); i++) {
                run++;
            }
            return run;
        }

        int readingsAtEnd() {
            int run = 0;
            for (int i = size - 1; i >= 0 && hasReading(i); i--) {
                run++;
            }
            return run;
        }

        int longestRunFirst() {
            int found = ABSENT;
            int longest = 0;
            for (int s = 0; s < size; s++) {
                int run = runFrom(s);
                if (run > longest) {
                    longest = run;
                    found = s;
                }
            }
            return found;
        }

        int flatWindows(int n) {
            int windows = 0;
            int alikeSoFar = 0;
            for (int i = 0; i < size; i++) {
                if (!hasReading(i)) {
                    alikeSoFar = 0;
                } else if (alikeSoFar > 0 && valueAt(i) == valueAt(i - 1)) {
                    alikeSoFar++;
                } else {
                    alikeSoFar = 1;
                }
                if (alikeSoFar >= n) {
                    windows++;
                }
            }
            return windows;
        }
    }

    /** The QUERIES of the text, numbered from 0 on. */
    private static final class Queries {
        private final int[] readings = new int[MOST_QUERIES * LONGEST];
        private final int[] lengths = new int[MOST_QUERIES];
        int size;

        boolean has(int q) {
            return q >= 0 && q < size && q < MOST_QUERIES;
        }

        int lengthOf(int q) {
            return has(q) ? lengths[q] : 0;
        }

        int valueAt(int q, int i) {
            return i >= 0 && i < LONGEST && i < lengthOf(q) ? readings[q * LONGEST + i] : NO_READING;
        }

        void open() {
            if (size >= 0 && size < MOST_QUERIES) {
                lengths[size] = 0;
                size++;
            }
        }

        void append(int value) {
            int q = size - 1;
            if (has(q) && lengths[q] < LONGEST) {
                readings[q * LONGEST + lengths[q]] = value;
                lengths[q]++;
            }
        }

        void takeFrom(Queries other) {
            size = 0;
            for (int q = 0; q < other.size; q++) {
                open();
                for (int i = 0; i < other.lengthOf(q); i++) {
                    append(other.valueAt(q, i));
                }
            }
        }

        void copyQuery(int q, int[] row) {
            for (int i = 0; i < lengthOf(q) && i < row.length; i++) {
                row[i] = valueAt(q, i);
            }
        }
    }

    /** The last things done, with what undoing each one needs. */
    private static final class Past {
        static final int APPENDED = 0;
        static final int MENDED = 1;
        static final int DROPPED = 2;
        static final int CHANGED = 3;
        private static final int MOST_STEPS = 40;

        private final int[] kinds = new int[MOST_STEPS];
        private final int[] firsts = new int[MOST_STEPS];
        private final int[] seconds = new int[MOST_STEPS];
        // Where the next one goes, over the oldest one if all places are taken.
        private int next;
        int size;

        void forget() {
            size = 0;
        }

        void note(int kind, int first, int second) {
            if (next < 0 || next >= MOST_STEPS) {
                return;
            }
            kinds[next] = kind;
            firsts[next] = first;
            seconds[next] = second;
            next = next == MOST_STEPS - 1 ? 0 : next + 1;
            size = Math.min(size + 1, MOST_STEPS);
        }

        boolean stepBack() {
            if (size < 1) {
                return false;
            }
            next = next == 0 ? MOST_STEPS - 1 : next - 1;
            size--;
            return true;
        }

        private static int valueIn(int[] row, int i) {
            return i >= 0 && i < row.length ? row[i] : 0;
        }

        int kindOfStep() {
            return valueIn(kinds, next);
        }

        int firstOfStep() {
            return valueIn(firsts, next);
        }

        int secondOfStep() {
            return valueIn(seconds, next);
        }
    }

    /** Two rows of one length, at their LEVELS: DISTANCE, BOUNDS, how they are LOOKED AT, WAY. */
    private static final class Fit {
        static final int COUNTS = 0;
        static final int BY_ENDS = 1;
        static final int BY_OVER = 2;
        static final int BY_BACK = 3;
        static final int BY_LATE = 4;
        static final int BY_LAST = 5;
        private static final int RANGE = 1000;
        private static final int ROW_OF_PLACE = 100;

        // The QUERY's row (or the first one's), whose places are the table's rows.
        final int[] left = new int[LONGEST];
        final int[] right = new int[LONGEST];
        private final int[] table = new int[LONGEST * LONGEST];
        // The WAY, from its end back.
        private final int[] steps = new int[2 * LONGEST];
        int wayLength;
        private int length = 1;
        private int band;
        private boolean isSquare;
        int cells;
        int brokenRow;

        void begin(int rowLength, int widest, int costKind) {
            length = Math.max(1, Math.min(rowLength, LONGEST));
            band = Math.max(0, widest);
            isSquare = costKind == Settings.SQUARE;
        }

        void takeLeft(int[] rows, int from) {
            copyRow(rows, from, left, 0);
        }

        void takeRight(int[] rows, int from) {
            copyRow(rows, from, right, 0);
        }

        void giveLeft(int[] rows, int to) {
            copyRow(left, 0, rows, to);
        }

        private void copyRow(int[] source, int from, int[] target, int to) {
            if (from < 0 || to < 0 || length > source.length - from || length > target.length - to) {
                return;
            }
            for (int i = 0; i < length; i++) {
                target[to + i] = source[from + i];
            }
        }

        void bringToLevel(int[] row, int kind) {
            if (length < 1 || length > row.length) {
                return;
            }
            if (kind == Settings.BY_MEAN) {
                lessenAll(row, Math.floorDiv(sumOf(row), length));
            } else if (kind == Settings.BY_FIRST) {
                lessenAll(row, row[0]);
            } else if (kind == Settings.BY_RANGE) {
                spreadAll(row);
            }
        }

        private int sumOf(int[] row) {
            int sum = 0;
            for (int i = 0; i < length && i < row.length; i++) {
                sum += row[i];
            }
            return sum;
        }

        private void lessenAll(int[] row, int by) {
            for (int i = 0; i < length && i < row.length; i++) {
                row[i] -= by;
            }
        }

        private void spreadAll(int[] row) {
            int least = row[0];
            int greatest = row[0];
            for (int i = 1; i < length; i++) {
                least = Math.min(least, row[i]);
                greatest = Math.max(greatest, row[i]);
            }
            int spread = greatest - least;
            for (int i = 0; i < length; i++) {
                row[i] = spread == 0 ? 0 : RANGE * (row[i] - least) / spread;
            }
        }

        private int costOf(int one, int other) {
            int by = one - other;
            if (isSquare) {
                return by * by;
            }
            return by < 0 ? -by : by;
        }

        int endsBound() {
            int last = length - 1;
            return costOf(left[0], right[0]) + costOf(left[last], right[last]);
        }

        int overBound() {
            return envelopeBound(right, left);
        }

        int backBound() {
            return envelopeBound(left, right);
        }

        private int envelopeBound(int[] row, int[] other) {
            int sum = 0;
            for (int i = 0; i < length && i < row.length; i++) {
                sum += outsideCost(row[i], other, i);
            }
            return sum;
        }

        private int outsideCost(int value, int[] other, int middle) {
            int from = Math.max(0, middle - band);
            int to = Math.min(length - 1, middle + band);
            int least = other[from];
            int greatest = least;
            for (int i = from + 1; i <= to; i++) {
                int around = other[i];
                if (around < least) {
                    least = around;
                } else if (around > greatest) {
                    greatest = around;
                }
            }
            if (value > greatest) {
                return costOf(value, greatest);
            }
            return value < least ? costOf(value, least) : 0;
        }

        int lookAt(int limit) {
            cells = 0;
            brokenRow = ABSENT;
            if (endsBound() >= limit) {
                return BY_ENDS;
            }
            if (envelopeBound(right, left) >= limit) {
                return BY_OVER;
            }
            if (envelopeBound(left, right) >= limit) {
                return BY_BACK;
            }
            layTable(limit);
            if (brokenRow != ABSENT) {
                return BY_LATE;
            }
            return laidDistance() >= limit ? BY_LAST : COUNTS;
        }

        // For what tells no one how WINDOWS were passed: the envelopes' bounds cost more than they spare.
        boolean isLess(int limit) {
            if (endsBound() >= limit) {
                return false;
            }
            layTable(limit);
            return brokenRow == ABSENT && laidDistance() < limit;
        }

        int wholeDistance() {
            layTable(NO_LIMIT);
            return laidDistance();
        }

        int laidDistance() {
            return table[(length - 1) * LONGEST + length - 1];
        }

        private void layTable(int limit) {
            cells = 0;
            brokenRow = ABSENT;
            for (int i = 0; i < length; i++) {
                if (layRow(i) >= limit) {
                    brokenRow = i;
                    return;
                }
            }
        }

        private int layRow(int i) {
            int from = Math.max(0, i - band);
            int to = Math.min(length - 1, i + band);
            int least = NO_LIMIT;
            for (int j = from; j <= to; j++) {
                int value = costOf(left[i], right[j]);
                if (i > 0 || j > 0) {
                    value += leastAhead(i, j);
                }
                table[i * LONGEST + j] = value;
                if (value < least) {
                    least = value;
                }
            }
            cells += to - from + 1;
            return least;
        }

        // Only for places of the table but the first; one ahead is always within the BAND.
        private int leastAhead(int i, int j) {
            int place = i * LONGEST + j;
            int least = NO_LIMIT;
            if (i > 0 && j > 0) {
                least = table[place - LONGEST - 1];
            }
            if (i > 0 && j - i < band && table[place - LONGEST] < least) {
                least = table[place - LONGEST];
            }
            if (j > 0 && i - j < band && table[place - 1] < least) {
                least = table[place - 1];
            }
            return least;
        }

        private int cellAt(int i, int j) {
            boolean isThere = i >= 0 && j >= 0 && i < length && j < length
                && i - j <= band && j - i <= band;
            return isThere ? table[i * LONGEST + j] : NO_LIMIT;
        }

        void traceWay() {
            layTable(NO_LIMIT);
            wayLength = 0;
            int i = length - 1;
            int j = length - 1;
            for (int n = 0; n < steps.length && i >= 0 && j >= 0; n++) {
                steps[n] = ROW_OF_PLACE * i + j;
                wayLength = n + 1;
                int both = cellAt(i - 1, j - 1);
                int above = cellAt(i - 1, j);
                int beside = cellAt(i, j - 1);
                if (both <= above && both <= beside) {
                    i--;
                    j--;
                } else if (above <= beside) {
                    i--;
                } else {
                    j--;
                }
            }
        }

        int wayPlace(int k) {
            int fromEnd = wayLength - 1 - k;
            return k >= 0 && fromEnd >= 0 && fromEnd < steps.length ? steps[fromEnd] : NONE;
        }

        int widestOfWay() {
            int widest = 0;
            for (int k = 0; k < wayLength; k++) {
                int step = wayPlace(k);
                widest = Math.max(widest, Math.abs(step / ROW_OF_PLACE - step % ROW_OF_PLACE));
            }
            return widest;
        }

        int stepsInBoth() {
            int inBoth = 0;
            for (int k = 1; k < wayLength; k++) {
                if (wayPlace(k) - wayPlace(k - 1) == ROW_OF_PLACE + 1) {
                    inBoth++;
                }
            }
            return inBoth;
        }
    }

    /** Lays rows of the SERIES and QUERIES, at the LEVEL that is set, side by side. */
    private static final class Bench {
        final Series series;
        final Queries queries;
        final Settings settings;
        final Fit fit = new Fit();
        private int length;

        Bench(Series series, Queries queries, Settings settings) {
            this.series = series;
            this.queries = queries;
            this.settings = settings;
        }

        boolean hasBoth(int q, int s) {
            return queries.has(q) && series.hasWindow(s, queries.lengthOf(q));
        }

        boolean openBoth(int q, int s) {
            if (!hasBoth(q, s)) {
                return false;
            }
            openQuery(q, settings.valueOf(BAND));
            laySecondWindow(s);
            return true;
        }

        void openQuery(int q, int band) {
            begin(queries.lengthOf(q), band);
            queries.copyQuery(q, fit.left);
            fit.bringToLevel(fit.left, settings.valueOf(LEVEL));
        }

        void openWindow(int s, int n) {
            begin(n, settings.valueOf(BAND));
            series.copyWindow(s, length, fit.left);
            fit.bringToLevel(fit.left, settings.valueOf(LEVEL));
        }

        private void begin(int n, int band) {
            length = n;
            fit.begin(n, band, settings.valueOf(COST));
        }

        void laySecondWindow(int s) {
            series.copyWindow(s, length, fit.right);
            fit.bringToLevel(fit.right, settings.valueOf(LEVEL));
        }

        void laySecondQuery(int q) {
            queries.copyQuery(q, fit.right);
            fit.bringToLevel(fit.right, settings.valueOf(LEVEL));
        }
    }

    /** What is asked of all WINDOWS of a QUERY, or of all QUERIES. */
    private static final class Finder {
        static final int TALLIES = 9;
        private static final int WINDOWS = 0;
        private static final int CELLS = 6;
        private static final int COUNTED = 7;
        private static final int LATE_ROWS = 8;

        private final Bench bench;
        private final Series series;
        private final Queries queries;
        final int[] tally = new int[TALLIES];
        int bestWindow;
        int bestDistance;
        // Of each place the DISTANCE of the WINDOW there; NONE where there is none.
        private final int[] distances = new int[MOST_PLACES];
        private final int[] matchWindows = new int[MOST_PLACES];
        private final int[] matchDistances = new int[MOST_PLACES];
        private int matches;
        private final boolean[] covered = new boolean[MOST_PLACES];

        Finder(Bench bench) {
            this.bench = bench;
            series = bench.series;
            queries = bench.queries;
        }

        void runSearch(int q) {
            for (int i = 0; i < TALLIES; i++) {
                tally[i] = 0;
            }
            int limit = NO_LIMIT;
            bench.openQuery(q, bench.settings.valueOf(BAND));
            for (int s = 0; s < series.size; s++) {
                if (series.hasWindow(s, queries.lengthOf(q))) {
                    bench.laySecondWindow(s);
                    int how = bench.fit.lookAt(limit);
                    addToTally(how);
                    if (how == Fit.COUNTS) {
                        limit = bench.fit.laidDistance();
                    }
                }
            }
        }

        private void addToTally(int how) {
            tally[WINDOWS]++;
            tally[CELLS] += bench.fit.cells;
            if (how == Fit.COUNTS) {
                tally[COUNTED]++;
            } else if (how >= Fit.BY_ENDS && how <= Fit.BY_LAST) {
                tally[how]++;
            }
            if (how == Fit.BY_LATE) {
                tally[LATE_ROWS] += bench.fit.brokenRow + 1;
            }
        }

        void findBest(int q, int band) {
            bestWindow = ABSENT;
            bestDistance = ABSENT;
            int limit = NO_LIMIT;
            bench.openQuery(q, band);
            for (int s = 0; s < series.size; s++) {
                if (series.hasWindow(s, queries.lengthOf(q))) {
                    bench.laySecondWindow(s);
                    if (bench.fit.isLess(limit)) {
                        limit = bench.fit.laidDistance();
                        bestWindow = s;
                        bestDistance = limit;
                    }
                }
            }
        }

        int neededBand(int q, int s) {
            // With a BAND of a QUERY's length less 1 the whole table is laid: more changes nothing.
            for (int band = 0; band < queries.lengthOf(q); band++) {
                findBest(q, band);
                if (bestWindow == s) {
                    return band;
                }
            }
            return ABSENT;
        }

        void scan(int q) {
            bench.openQuery(q, bench.settings.valueOf(BAND));
            for (int s = 0; s < MOST_PLACES; s++) {
                distances[s] = NONE;
                if (series.hasWindow(s, queries.lengthOf(q))) {
                    bench.laySecondWindow(s);
                    distances[s] = bench.fit.wholeDistance();
                }
            }
        }

        int scannedDistance(int s) {
            return s >= 0 && s < MOST_PLACES ? distances[s] : ABSENT;
        }

        private int leastScanned() {
            int found = NONE;
            for (int s = 0; s < MOST_PLACES; s++) {
                if (distances[s] >= 0 && (found < 0 || distances[s] < distances[found])) {
                    found = s;
                }
            }
            return found;
        }

        void findMatches(int q) {
            scan(q);
            matches = 0;
            int s = leastScanned();
            for (int n = 0; n < MOST_PLACES && s >= 0; n++) {
                matchWindows[n] = s;
                matchDistances[n] = distances[s];
                matches = n + 1;
                passOverAround(s);
                s = leastScanned();
            }
        }

        private void passOverAround(int s) {
            int apart = bench.settings.valueOf(APART);
            for (int t = 0; t < MOST_PLACES; t++) {
                if (Math.abs(t - s) < apart) {
                    distances[t] = NONE;
                }
            }
        }

        int matchWindow(int i) {
            return i >= 0 && i < matches && i < MOST_PLACES ? matchWindows[i] : ABSENT;
        }

        int matchDistance(int i) {
            return i >= 0 && i < matches && i < MOST_PLACES ? matchDistances[i] : ABSENT;
        }

        int matchesWithin(int limit) {
            int found = 0;
            for (int i = 0; i < matches; i++) {
                if (matchDistance(i) <= limit) {
                    found++;
                }
            }
            return found;
        }

        int placesWithin(int limit, int length) {
            for (int p = 0; p < MOST_PLACES; p++) {
                covered[p] = false;
            }
            for (int i = 0; i < matches; i++) {
                if (matchDistance(i) <= limit) {
                    coverFrom(matchWindow(i), length);
                }
            }
            int places = 0;
            for (int p = 0; p < MOST_PLACES; p++) {
                if (covered[p]) {
                    places++;
                }
            }
            return places;
        }

        private void coverFrom(int s, int length) {
            for (int i = 0; i < length; i++) {
                int p = s + i;
                if (p >= 0 && p < MOST_PLACES) {
                    covered[p] = true;
                }
            }
        }

        int rankOf(int s) {
            int own = scannedDistance(s);
            int ahead = 0;
            for (int t = 0; t < MOST_PLACES; t++) {
                int other = distances[t];
                if (other >= 0 && (other < own || (other == own && t < s))) {
                    ahead++;
                }
            }
            return ahead;
        }

        int windowOfRank(int k) {
            for (int s = 0; s < MOST_PLACES; s++) {
                if (distances[s] >= 0 && rankOf(s) == k) {
                    return s;
                }
            }
            return ABSENT;
        }

        int turnCount() {
            int turned = 0;
            int before = NONE;
            boolean isFalling = false;
            for (int s = 0; s < MOST_PLACES; s++) {
                int now = distances[s];
                if (now < 0) {
                    continue;
                }
                if (before >= 0 && now < before) {
                    isFalling = true;
                } else if (before >= 0 && now > before) {
                    turned += isFalling ? 1 : 0;
                    isFalling = false;
                }
                before = now;
            }
            return turned;
        }

        int slackSum(int q) {
            int sum = 0;
            bench.openQuery(q, bench.settings.valueOf(BAND));
            for (int s = 0; s < series.size; s++) {
                if (series.hasWindow(s, queries.lengthOf(q))) {
                    bench.laySecondWindow(s);
                    Fit fit = bench.fit;
                    int bound = Math.max(fit.endsBound(), Math.max(fit.overBound(), fit.backBound()));
                    sum += fit.wholeDistance() - bound;
                }
            }
            return sum;
        }

        int nearestQuery(int s, int n) {
            int found = ABSENT;
            int least = NO_LIMIT;
            for (int q = 0; q < queries.size; q++) {
                if (queries.lengthOf(q) == n && bench.openBoth(q, s)) {
                    int apart = bench.fit.wholeDistance();
                    if (apart < least) {
                        least = apart;
                        found = q;
                    }
                }
            }
            return found;
        }

        int firedBits(int limit) {
            int bits = 0;
            for (int q = 0; q < queries.size; q++) {
                int s = series.size - queries.lengthOf(q);
                if (bench.openBoth(q, s) && bench.fit.wholeDistance() <= limit) {
                    bits |= 1 << q;
                }
            }
            return bits;
        }
    }

    /** WINDOWS of one length that are n or more places apart: NEAR, PAIR and the ODD one. */
    private static final class Stretches {
        private final Bench bench;
        private final Fit fit;
        // Of each place the WINDOW there at its LEVEL, brought to it once for all it is held against.
        private final int[] rows = new int[MOST_PLACES * LONGEST];
        private final boolean[] isThere = new boolean[MOST_PLACES];
        int nearest;
        int nearestDistance;
        int pairLesser;
        int pairGreater;
        int pairDistance;
        int oddWindow;
        int oddDistance;

        Stretches(Bench bench) {
            this.bench = bench;
            fit = bench.fit;
        }

        private void bringAll(int n) {
            for (int s = 0; s < MOST_PLACES; s++) {
                isThere[s] = bench.series.hasWindow(s, n);
                if (isThere[s]) {
                    bench.openWindow(s, n);
                    fit.giveLeft(rows, s * LONGEST);
                }
            }
        }

        void findNear(int s, int n) {
            bringAll(n);
            findNearest(s, n, NONE);
        }

        // Breaks off at a DISTANCE of no more than enough: the ODD one asks for none nearer than that.
        private void findNearest(int s, int n, int enough) {
            nearest = ABSENT;
            nearestDistance = ABSENT;
            int limit = NO_LIMIT;
            fit.takeLeft(rows, s * LONGEST);
            for (int t = 0; t < MOST_PLACES && limit > enough; t++) {
                if (!isThere[t] || Math.abs(t - s) < n) {
                    continue;
                }
                fit.takeRight(rows, t * LONGEST);
                if (fit.isLess(limit)) {
                    limit = fit.laidDistance();
                    nearest = t;
                    nearestDistance = limit;
                }
            }
        }

        void findPair(int n) {
            pairLesser = ABSENT;
            pairGreater = ABSENT;
            pairDistance = ABSENT;
            bringAll(n);
            for (int s = 0; s < MOST_PLACES; s++) {
                if (isThere[s]) {
                    fit.takeLeft(rows, s * LONGEST);
                    seekPairOf(s, n);
                }
            }
        }

        private void seekPairOf(int s, int n) {
            for (int t = s + n; t < MOST_PLACES; t++) {
                if (!isThere[t]) {
                    continue;
                }
                fit.takeRight(rows, t * LONGEST);
                if (fit.isLess(pairDistance < 0 ? NO_LIMIT : pairDistance)) {
                    pairLesser = s;
                    pairGreater = t;
                    pairDistance = fit.laidDistance();
                }
            }
        }

        void findOdd(int n) {
            oddWindow = ABSENT;
            oddDistance = ABSENT;
            bringAll(n);
            for (int s = 0; s < MOST_PLACES; s++) {
                if (!isThere[s]) {
                    continue;
                }
                findNearest(s, n, oddDistance);
                if (nearest >= 0 && nearestDistance > oddDistance) {
                    oddWindow = s;
                    oddDistance = nearestDistance;
                }
            }
        }
    }
}
