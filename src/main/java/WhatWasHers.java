import java.util.Arrays;

/** Two people, three purses, and a life through lands with laws of their own: see README.md. */
public final class WhatWasHers {
    public static final int NONE = -1000000;
    public static final long NOT = -9000000000000000000L;

    private static final long BAD = NOT - 1;
    private static final long STATE = NOT - 2;
    private static final long FULL = NOT - 3;

    private static final int NULL = 1;
    private static final int PLACE = 2;
    private static final int KIND = 3;
    private static final int SIZE = 4;
    private static final int STORE = 5;

    private static final int ROWS = 8;
    private static final int LANES = 3;
    private static final int MOST_ITEMS = 40;
    private static final int MISSING = -1;

    private static final int PURSES = 3;
    private static final int BOTH = 2;
    private static final int WAYS = 5;
    private static final int BOUGHT = 4;
    private static final int KINDS = 6;
    private static final int LAST_DAY = 999;
    private static final int MOST_WISH = 9999;

    private static final int MOST_BYTES = 500;
    private static final int MOST_LAWS = 4;
    private static final int MOST_EVENTS = 30;
    private static final int MOST_THINGS = 10;
    // Ten events at most buy, each with three PUTS; each of the twenty others has one.
    private static final int MOST_PUTS = 50;

    private static final int COME = 0;
    private static final int BUY = 1;
    private static final int PUT = 2;
    private static final int NOW = 3;
    private static final int OWES = 4;
    private static final int LAND = 5;
    private static final int AGREE = 6;

    private final int[] lanes = new int[ROWS];
    private final int[] sizes = new int[ROWS];
    private final int[] items = new int[ROWS * MOST_ITEMS];
    private int latestFinding;

    private final Reader reader = new Reader();
    private int latestFault;

    private boolean lived;
    private Story story = new Story();
    // A text is read in here, so that a FAULT leaves the LIFE as it is.
    private Story spare = new Story();
    private final Course course = new Course();
    private final Sums sums = new Sums();

    // The LIFE as it would have gone: made once, since asks for it come often.
    private final Course otherCourse = new Course();
    private final Sums otherSums = new Sums();

    private final Trace left = new Trace();

    public WhatWasHers() {
        Arrays.fill(sizes, MISSING);
    }

    // ---- rows

    public long row(int row, int lane, int n) {
        if (isNoRow(row) || lane < 0 || lane >= LANES || n > MOST_ITEMS) {
            return BAD;
        }
        if (n < 0) {
            return found(SIZE);
        }
        lanes[row] = lane;
        sizes[row] = n;
        for (int i = 0; i < n; i++) {
            items[row * MOST_ITEMS + i] = 0;
        }
        return fine(n);
    }

    public long set(int row, int i, int v) {
        if (isNoRow(row)) {
            return BAD;
        }
        if (isMissing(row)) {
            return found(NULL);
        }
        if (i < 0 || i >= sizes[row]) {
            return found(PLACE);
        }
        int item = lowestBits(v, lanes[row]);
        items[row * MOST_ITEMS + i] = item;
        return fine(item);
    }

    public long copy(int a, int i, int b, int j, int n) {
        if (isNoRow(a) || isNoRow(b)) {
            return BAD;
        }
        if (isMissing(a) || isMissing(b)) {
            return found(NULL);
        }
        if (lanes[a] != lanes[b]) {
            return found(STORE);
        }
        if (lacksItems(a, i, n) || lacksItems(b, j, n)) {
            return found(PLACE);
        }
        System.arraycopy(items, a * MOST_ITEMS + i, items, b * MOST_ITEMS + j, n);
        return fine(n);
    }

    public long drop(int row) {
        if (isNoRow(row)) {
            return BAD;
        }
        if (isMissing(row)) {
            return found(NULL);
        }
        int size = sizes[row];
        sizes[row] = MISSING;
        return fine(size);
    }

    private static boolean isNoRow(int row) {
        return row < 0 || row >= ROWS;
    }

    private boolean isMissing(int row) {
        return sizes[row] == MISSING;
    }

    // The sum is a long one: an int would wrap around for the greatest numbers.
    private boolean lacksItems(int row, int i, int n) {
        return i < 0 || n < 0 || (long) i + n > sizes[row];
    }

    private static int lowestBits(int v, int lane) {
        if (lane == 0) {
            return (byte) v;
        }
        return lane == 1 ? (short) v : v;
    }

    private long found(int finding) {
        latestFinding = finding;
        return NOT - 10 - finding;
    }

    private long fine(long answer) {
        latestFinding = 0;
        return answer;
    }

    // ---- lives

    public long feed(long w, int n) {
        if (n < 1 || n > 8) {
            return BAD;
        }
        if (reader.length + n > MOST_BYTES) {
            return FULL;
        }
        for (int k = n - 1; k >= 0; k--) {
            reader.append((byte) (w >>> (8 * k)));
        }
        return reader.length;
    }

    public long life() {
        reader.readInto(spare);
        if (reader.wrong != 0) {
            latestFault = reader.wrong;
            return NOT - 100 - reader.wrongPlace;
        }
        Story before = story;
        story = spare;
        spare = before;
        lived = true;
        course.begin(story);
        course.goThrough(0, story.events);
        sums.reckon(course);
        return story.events;
    }

    public int fault() {
        return latestFault;
    }

    public long whose(int thing, int day) {
        if (isNoThing(thing) || isNoDay(day)) {
            return BAD;
        }
        otherCourse.begin(story);
        otherCourse.goThrough(0, story.firstEventFrom(day + 1));
        return thing < otherCourse.things ? otherCourse.inPurse[thing] : NONE;
    }

    public long thing(int thing, int what) {
        if (isNoThing(thing)) {
            return BAD;
        }
        switch (what) {
            case 0: return course.inPurse[thing];
            case 1: return course.reason[thing];
            case 2: return course.cameBy[thing];
            case 3: return course.fellBy[thing];
            case 4: return course.worth[thing];
            case 5: return course.putsInto[thing];
            case 6: return story.way(course.cameBy[thing]);
            default: return BAD;
        }
    }

    public long judge(int row, int i) {
        if (isNoRow(row)) {
            return BAD;
        }
        if (!lived) {
            return STATE;
        }
        if (isMissing(row)) {
            return found(NULL);
        }
        if (lacksItems(row, i, course.things)) {
            return found(PLACE);
        }
        int from = row * MOST_ITEMS + i;
        for (int t = 0; t < course.things; t++) {
            if (isNoPurse(items[from + t])) {
                return BAD;
            }
        }
        for (int t = 0; t < course.things; t++) {
            if (items[from + t] != course.inPurse[t]) {
                return fine(t);
            }
        }
        return fine(NONE);
    }

    private boolean isNoThing(int thing) {
        return thing < 0 || thing >= course.things;
    }

    private static boolean isNoDay(int day) {
        return day < 0 || day > LAST_DAY;
    }

    private static boolean isNoPurse(int purse) {
        return purse < 0 || purse >= PURSES;
    }

    // ---- what is owed

    public long purse(int purse, int what) {
        if (isNoPurse(purse)) {
            return BAD;
        }
        switch (what) {
            case 0: return sums.has[purse];
            case 1: return sums.came[purse];
            case 2: return course.debts[purse];
            case 3: return sums.thingsIn[purse];
            default: return BAD;
        }
    }

    public long fed(int p, int q) {
        if (areNoPair(p, q)) {
            return BAD;
        }
        return sums.fedInto[p * PURSES + q];
    }

    public long owed(int p, int q, int what) {
        if (areNoPair(p, q) || isNoPart(what)) {
            return BAD;
        }
        if (!lived) {
            return STATE;
        }
        return partOf(sums.owedTop[p * PURSES + q], sums.bottom, what);
    }

    public long net(int purse, int what) {
        if (isNoPurse(purse) || isNoPart(what)) {
            return BAD;
        }
        if (!lived) {
            return STATE;
        }
        return partOf(sums.netTop[purse], sums.bottom, what);
    }

    public long end(int who, int what) {
        if (who < 0 || who > 1 || isNoPart(what)) {
            return BAD;
        }
        if (!lived) {
            return STATE;
        }
        return partOf(sums.endTop[who], sums.endBottom(), what);
    }

    private static boolean areNoPair(int p, int q) {
        return isNoPurse(p) || isNoPurse(q) || p == q;
    }

    private static boolean isNoPart(int what) {
        return what < 0 || what > 1;
    }

    /** The number above (what = 0) or below (1) of a fraction in lowest terms. */
    private static long partOf(long top, long bottom, int what) {
        long common = commonDivisor(Math.abs(top), bottom);
        if (common <= 0) {
            return what;
        }
        return (what == 0 ? top : bottom) / common;
    }

    private static long commonDivisor(long a, long b) {
        long greater = a;
        long lesser = b;
        // Each two rounds halve the numbers at least, so longs need fewer than 128.
        for (int round = 0; round < 128 && lesser != 0; round++) {
            long rest = greater % lesser;
            greater = lesser;
            lesser = rest;
        }
        return greater;
    }

    // ---- beside

    public long beside(int law, int day, int what) {
        if (!lived) {
            return STATE;
        }
        if (law < 0 || law >= story.laws || isNoDay(day) || isNoPart(what)) {
            return BAD;
        }
        int from = story.firstEventFrom(day);
        otherCourse.begin(story);
        otherCourse.goThrough(0, from);
        otherCourse.moveTo(law, NONE);
        otherCourse.goThrough(from, story.events);
        otherSums.reckon(otherCourse);
        return partOf(otherSums.endTop[0], otherSums.endBottom(), what);
    }

    public long hangs() {
        if (!lived) {
            return STATE;
        }
        long asItIs = sums.herEndCut();
        long farthest = -1;
        int event = NONE;
        for (int e = 0; e < story.events; e++) {
            if (story.canBeLeftOut(e)) {
                long distance = Math.abs(herEndWithout(e) - asItIs);
                if (distance > farthest) {
                    farthest = distance;
                    event = e;
                }
            }
        }
        return event;
    }

    private long herEndWithout(int event) {
        otherCourse.begin(story);
        otherCourse.goThrough(0, event);
        otherCourse.goThrough(event + 1, story.events);
        otherSums.reckon(otherCourse);
        return otherSums.herEndCut();
    }

    public long beforehand(int hers, int his) {
        if (isNoWish(hers) || isNoWish(his)) {
            return BAD;
        }
        if (!lived) {
            return STATE;
        }
        if (sums.grants(hers, his)) {
            return WAYS * PURSES;
        }
        for (int way = 0; way < WAYS; way++) {
            for (int purse = 0; purse < PURSES; purse++) {
                otherCourse.begin(story);
                otherCourse.agreed[way] = purse;
                otherCourse.goThrough(0, story.events);
                otherSums.reckon(otherCourse);
                if (otherSums.grants(hers, his)) {
                    return way * PURSES + purse;
                }
            }
        }
        return NONE;
    }

    private static boolean isNoWish(int wish) {
        return wish < -MOST_WISH || wish > MOST_WISH;
    }

    // ---- asked

    public long kind(int thing) {
        if (isNoThing(thing)) {
            return BAD;
        }
        Thing told = toldThing(thing);
        for (int k = KINDS - 1; k > 0; k--) {
            if (isOfKind(told, k)) {
                return k;
            }
        }
        return 0;
    }

    public long as(int thing, int kind) {
        if (isNoThing(thing) || kind < 0 || kind >= KINDS) {
            return BAD;
        }
        return isOfKind(toldThing(thing), kind) ? fine(thing) : found(KIND);
    }

    public long ask(int thing, int what) {
        if (isNoThing(thing) || what < 0 || what > 1) {
            return BAD;
        }
        left.clear();
        Thing told = toldThing(thing);
        return what == 0 ? told.size() : told.mark();
    }

    public int trace(int i) {
        return i >= 0 && i < left.length ? left.numbers[i] : NONE;
    }

    public long count(int what) {
        switch (what) {
            case 0: return rowsThatAre();
            case 1: return story.laws;
            case 2: return story.events;
            case 3: return course.things;
            case 4: return course.puts;
            case 5: return reader.length;
            case 6: return lived ? course.law : NONE;
            default: return BAD;
        }
    }

    public int status() {
        return latestFinding;
    }

    private int rowsThatAre() {
        int rows = 0;
        for (int r = 0; r < ROWS; r++) {
            if (!isMissing(r)) {
                rows++;
            }
        }
        return rows;
    }

    /** A THING as one of the last KIND that fits it. */
    private Thing toldThing(int thing) {
        int purse = course.inPurse[thing];
        if (purse == BOTH) {
            boolean bought = story.way(course.cameBy[thing]) == BOUGHT;
            return bought ? new Made(thing, course, left) : new Common(thing, course, left);
        }
        if (!course.isFedByAnother(thing)) {
            return new Own(thing, course, left);
        }
        boolean changed = course.firstPurse[thing] != purse;
        return changed ? new Changed(thing, course, left) : new Fed(thing, course, left);
    }

    private static boolean isOfKind(Thing told, int kind) {
        switch (kind) {
            case 0: return true;
            case 1: return told instanceof Own;
            case 2: return told instanceof Common;
            case 3: return told instanceof Fed;
            case 4: return told instanceof Changed;
            case 5: return told instanceof Made;
            default: return false;
        }
    }

    /** A LIFE as its text tells it: LAWS and events, each with up to three numbers. */
    private static final class Story {
        private static final int COME_WAYS = 4;

        int laws;
        int events;
        int things;
        final int[] places = new int[MOST_LAWS * COME_WAYS];
        final int[] mix = new int[MOST_LAWS];
        final int[] owe = new int[MOST_LAWS];
        final int[] move = new int[MOST_LAWS];
        final int[] hundredths = new int[MOST_LAWS];
        final int[] what = new int[MOST_EVENTS];
        final int[] day = new int[MOST_EVENTS];
        final int[] first = new int[MOST_EVENTS];
        final int[] second = new int[MOST_EVENTS];
        final int[] third = new int[MOST_EVENTS];

        void clear() {
            laws = 0;
            events = 0;
            things = 0;
        }

        int firstEventFrom(int fromDay) {
            int e = 0;
            while (e < events && day[e] < fromDay) {
                e++;
            }
            return e;
        }

        boolean canBeLeftOut(int event) {
            int w = what[event];
            return w == PUT || w == NOW || w == OWES || w == AGREE;
        }

        boolean movesAll(int law) {
            return move[law] == 1;
        }

        int way(int event) {
            return what[event] == COME ? first[event] : BOUGHT;
        }

        /** Where a THING that came (not bought) FALLS by a LAW. */
        int purseOfComer(int law, int event) {
            boolean own = places[law * COME_WAYS + first[event]] == 0;
            return own ? second[event] : BOTH;
        }

        /** Where a bought THING FALLS by a LAW. */
        int purseOfPayers(int law, int event) {
            int hers = first[event];
            int his = second[event];
            int boths = third[event];
            int most = hers >= his ? 0 : 1;
            if (boths > Math.max(hers, his)) {
                most = BOTH;
            }
            if (mix[law] == 0) {
                return most;
            }
            // With one payer alone, the one that paid most is that one.
            boolean alone = Math.max(Math.max(hers, his), boths) == hers + his + boths;
            return alone ? most : BOTH;
        }
    }

    /** THE TAPE, and the reading of it: from the first FAULT on all reading stands still. */
    private static final class Reader {
        private static final int END = 0;
        private static final int NAME = 1;
        private static final int NUMBER = 2;
        private static final int SIGN = 3;
        private static final int NO_TOKEN = 4;
        private static final int MOST_FIGURES = 3;
        private static final int MOST_SUM = 99;
        private static final String EVENT_WORDS = "come buy put now owes land agree";

        final byte[] tape = new byte[MOST_BYTES];
        int length;
        int wrong;
        int wrongPlace;
        private int sort;
        private int start;
        private int behind;
        private int value;

        void append(byte b) {
            if (length < MOST_BYTES) {
                tape[length] = b;
                length++;
            }
        }

        void readInto(Story story) {
            story.clear();
            wrong = 0;
            wrongPlace = 0;
            behind = 0;
            step();
            readLaws(story);
            readEvents(story);
            length = 0;
        }

        private void readLaws(Story story) {
            if (choice("law") < 0) {
                fail(1);
            }
            for (int k = 0; k <= MOST_LAWS && wrong == 0 && choice("law") == 0; k++) {
                if (story.laws >= MOST_LAWS) {
                    fail(3);
                } else {
                    readLaw(story, story.laws);
                    story.laws++;
                }
            }
        }

        private void readLaw(Story story, int law) {
            step();
            for (int way = 0; way < Story.COME_WAYS; way++) {
                story.places[law * Story.COME_WAYS + way] = word("own both");
            }
            story.mix[law] = word("most both");
            story.owe[law] = word("sums parts worth less more");
            story.move[law] = word("stays all");
            story.hundredths[law] = number(0, 100);
            semicolon();
        }

        private void readEvents(Story story) {
            for (int k = 0; k <= MOST_EVENTS && wrong == 0 && sort != END; k++) {
                int what = choice(EVENT_WORDS);
                boolean brings = what == COME || what == BUY;
                if (what < 0) {
                    fail(1);
                } else if (story.events >= MOST_EVENTS
                        || (brings && story.things >= MOST_THINGS)) {
                    fail(3);
                } else {
                    readEvent(story, story.events, what);
                    story.events++;
                    story.things += brings ? 1 : 0;
                }
            }
        }

        private void readEvent(Story story, int e, int what) {
            step();
            story.what[e] = what;
            story.day[e] = number(e == 0 ? 0 : story.day[e - 1], LAST_DAY);
            switch (what) {
                case COME:
                    story.first[e] = word("brought given earned heired");
                    story.second[e] = number(0, 1);
                    story.third[e] = number(1, MOST_SUM);
                    break;
                case BUY:
                    story.first[e] = number(0, MOST_SUM);
                    story.second[e] = number(0, MOST_SUM);
                    boolean nothingYet = story.first[e] == 0 && story.second[e] == 0;
                    story.third[e] = number(nothingYet ? 1 : 0, MOST_SUM);
                    break;
                case PUT:
                    story.first[e] = number(0, story.things - 1);
                    story.second[e] = number(0, PURSES - 1);
                    story.third[e] = number(1, MOST_SUM);
                    break;
                case NOW:
                    story.first[e] = number(0, story.things - 1);
                    story.second[e] = number(0, MOST_SUM);
                    break;
                case OWES:
                    story.first[e] = number(0, PURSES - 1);
                    story.second[e] = number(1, MOST_SUM);
                    break;
                case LAND:
                    story.first[e] = number(0, story.laws - 1);
                    break;
                default:
                    story.first[e] = number(0, WAYS - 1);
                    story.second[e] = number(0, PURSES - 1);
                    break;
            }
            semicolon();
        }

        /** Takes a TOKEN that must be one of the words: which of them it is. */
        private int word(String words) {
            int which = choice(words);
            if (which < 0) {
                fail(1);
                return 0;
            }
            step();
            return which;
        }

        /** Takes a TOKEN that must be a NUMBER from least to most. */
        private int number(int least, int most) {
            int taken = value;
            if (sort != NUMBER) {
                fail(1);
                return 0;
            }
            if (taken < least || taken > most) {
                fail(2);
                return 0;
            }
            step();
            return taken;
        }

        private void semicolon() {
            if (sort == SIGN) {
                step();
            } else {
                fail(1);
            }
        }

        private void fail(int number) {
            if (wrong == 0) {
                wrong = number;
                wrongPlace = start;
            }
        }

        /** Which one of some words, with a space between each two, this TOKEN is; -1: none. */
        private int choice(String words) {
            if (sort != NAME) {
                return -1;
            }
            int which = 0;
            int from = 0;
            for (int i = 0; i <= words.length(); i++) {
                if (i == words.length() || words.charAt(i) == ' ') {
                    if (isWord(words, from, i)) {
                        return which;
                    }
                    which++;
                    from = i + 1;
                }
            }
            return -1;
        }

        private boolean isWord(String words, int from, int to) {
            if (to - from != behind - start) {
                return false;
            }
            for (int i = from; i < to; i++) {
                if (words.charAt(i) != tape[start + i - from]) {
                    return false;
                }
            }
            return true;
        }

        /** Goes on to the next TOKEN; from a FAULT on it stays where it is. */
        private void step() {
            if (wrong != 0) {
                return;
            }
            start = behind;
            while (start < length && (tape[start] == ' ' || tape[start] == '\n')) {
                start++;
            }
            if (start >= length) {
                sort = END;
                behind = start;
            } else if (isIn(tape[start], 'a', 'z')) {
                sort = NAME;
                behind = behindRun(start, 'a', 'z');
            } else if (isIn(tape[start], '0', '9')) {
                behind = behindRun(start, '0', '9');
                takeNumber();
            } else {
                sort = tape[start] == ';' ? SIGN : NO_TOKEN;
                behind = start + 1;
            }
        }

        private void takeNumber() {
            value = 0;
            if (behind - start > MOST_FIGURES) {
                sort = NO_TOKEN;
                return;
            }
            sort = NUMBER;
            for (int i = start; i < behind; i++) {
                value = value * 10 + (tape[i] - '0');
            }
        }

        private static boolean isIn(byte b, char low, char high) {
            return b >= low && b <= high;
        }

        private int behindRun(int from, char low, char high) {
            int i = from;
            while (i < length && tape[i] >= low && tape[i] <= high) {
                i++;
            }
            return i;
        }
    }

    /** How a LIFE goes, event by event, and how things stand behind the latest one. */
    private static final class Course {
        private static final int BY_LAW = 0;
        private static final int BY_AGREEMENT = 1;
        private static final int BY_LAND = 2;

        // An empty one ahead of the first LIFE, so that there always is one.
        Story story = new Story();
        int law;
        final int[] agreed = new int[WAYS];
        final int[] debts = new int[PURSES];
        int things;
        final int[] cameBy = new int[MOST_THINGS];
        final int[] cameWorth = new int[MOST_THINGS];
        final int[] firstPurse = new int[MOST_THINGS];
        final int[] inPurse = new int[MOST_THINGS];
        final int[] reason = new int[MOST_THINGS];
        final int[] fellBy = new int[MOST_THINGS];
        final int[] worth = new int[MOST_THINGS];
        final int[] putsInto = new int[MOST_THINGS];
        int puts;
        final int[] putThing = new int[MOST_PUTS];
        final int[] putPurse = new int[MOST_PUTS];
        final int[] putSum = new int[MOST_PUTS];
        final int[] putWeight = new int[MOST_PUTS];

        void begin(Story newStory) {
            story = newStory;
            law = 0;
            things = 0;
            puts = 0;
            Arrays.fill(agreed, NONE);
            Arrays.fill(debts, 0);
        }

        void goThrough(int from, int to) {
            for (int e = from; e < to; e++) {
                goOn(e, story.first[e], story.second[e], story.third[e]);
            }
        }

        private void goOn(int e, int first, int second, int third) {
            switch (story.what[e]) {
                case COME:
                    takeIn(e, third, third);
                    break;
                case BUY:
                    takeIn(e, 0, first + second + third);
                    notePut(things - 1, 0, first);
                    notePut(things - 1, 1, second);
                    notePut(things - 1, 2, third);
                    break;
                case PUT:
                    worth[first] += third;
                    notePut(first, second, third);
                    break;
                case NOW:
                    worth[first] = second;
                    break;
                case OWES:
                    debts[first] += second;
                    break;
                case LAND:
                    moveTo(first, e);
                    break;
                default:
                    agreed[first] = second;
                    break;
            }
        }

        void moveTo(int newLaw, int event) {
            law = newLaw;
            if (story.movesAll(newLaw)) {
                for (int t = 0; t < things; t++) {
                    fall(t, event, BY_LAND);
                }
            }
        }

        private void takeIn(int event, int broughtWorth, int worthThen) {
            if (things >= MOST_THINGS) {
                return;
            }
            int t = things;
            things++;
            cameBy[t] = event;
            cameWorth[t] = broughtWorth;
            worth[t] = worthThen;
            putsInto[t] = 0;
            fall(t, event, BY_LAW);
            firstPurse[t] = inPurse[t];
        }

        private void fall(int t, int event, int reasonOfLaw) {
            int origin = cameBy[t];
            int way = story.way(origin);
            fellBy[t] = event;
            if (agreed[way] != NONE) {
                inPurse[t] = agreed[way];
                reason[t] = BY_AGREEMENT;
                return;
            }
            inPurse[t] = way == BOUGHT
                ? story.purseOfPayers(law, origin) : story.purseOfComer(law, origin);
            reason[t] = reasonOfLaw;
        }

        private void notePut(int t, int purse, int sum) {
            if (sum <= 0 || t < 0 || puts >= MOST_PUTS) {
                return;
            }
            putThing[puts] = t;
            putPurse[puts] = purse;
            putSum[puts] = sum;
            putWeight[puts] = worth[t];
            puts++;
            putsInto[t]++;
        }

        boolean isFedByAnother(int t) {
            for (int k = 0; k < puts; k++) {
                if (putThing[k] == t && putPurse[k] != inPurse[t]) {
                    return true;
                }
            }
            return false;
        }
    }

    /**
     * What purses have, owe and come to at the end of a course. All fractions stand over one
     * bottom and are not brought into lowest terms here: at most some 6e17, they fit into longs.
     */
    private static final class Sums {
        private static final int BY_SUMS = 0;
        private static final int BY_PARTS = 1;
        private static final int BY_WORTH = 2;
        private static final int BY_LESS = 3;

        final long[] has = new long[PURSES];
        final long[] came = new long[PURSES];
        final int[] thingsIn = new int[PURSES];
        final long[] fedInto = new long[PURSES * PURSES];
        final long[] owedTop = new long[PURSES * PURSES];
        final long[] netTop = new long[PURSES];
        final long[] endTop = new long[2];
        long bottom = 1;
        private final long[] matrix = new long[PURSES * PURSES];

        void reckon(Course course) {
            Story story = course.story;
            int owe = story.owe[course.law];
            addThings(course);
            addPuts(course, owe);
            bottom = 1;
            if (owe == BY_PARTS) {
                solveParts();
            } else {
                addNets();
            }
            int hers = story.hundredths[course.law];
            endTop[0] = 100 * netTop[0] + hers * netTop[BOTH];
            endTop[1] = 100 * netTop[1] + (100 - hers) * netTop[BOTH];
        }

        long endBottom() {
            return 100 * bottom;
        }

        long herEndCut() {
            return endBottom() > 0 ? endTop[0] / endBottom() : 0;
        }

        boolean grants(int hers, int his) {
            return endTop[0] >= hers * endBottom() && endTop[1] >= his * endBottom();
        }

        private void addThings(Course course) {
            for (int p = 0; p < PURSES; p++) {
                has[p] = -course.debts[p];
                came[p] = 0;
                thingsIn[p] = 0;
            }
            for (int t = 0; t < course.things; t++) {
                int p = course.inPurse[t];
                has[p] += course.worth[t];
                came[p] += course.cameWorth[t];
                thingsIn[p]++;
            }
        }

        private void addPuts(Course course, int owe) {
            Arrays.fill(fedInto, 0);
            Arrays.fill(owedTop, 0);
            for (int k = 0; k < course.puts; k++) {
                int sum = course.putSum[k];
                int t = course.putThing[k];
                int p = course.putPurse[k];
                int q = course.inPurse[t];
                came[q] += sum;
                if (p != q) {
                    fedInto[p * PURSES + q] += sum;
                    owedTop[p * PURSES + q] += claim(owe, sum, course.worth[t], course.putWeight[k]);
                }
            }
        }

        private static int claim(int owe, int sum, int worth, int weight) {
            if (owe == BY_SUMS || owe == BY_PARTS || weight <= 0) {
                return sum;
            }
            int grown = sum * worth / weight;
            if (owe == BY_WORTH) {
                return grown;
            }
            return owe == BY_LESS ? Math.min(sum, grown) : Math.max(sum, grown);
        }

        private void addNets() {
            for (int p = 0; p < PURSES; p++) {
                netTop[p] = has[p];
                for (int q = 0; q < PURSES; q++) {
                    netTop[p] += owedTop[p * PURSES + q] - owedTop[q * PURSES + p];
                }
            }
        }

        /**
         * With x of q for NET of q by what CAME into it, all is in whole numbers: CAME of p and
         * all FED into p, times x of p, less FED p into q times x of q, is what p HAS. Each
         * diagonal outweighs its column, so the determinant is above 0.
         */
        private void solveParts() {
            for (int p = 0; p < PURSES; p++) {
                long own = cameOrOne(p);
                for (int q = 0; q < PURSES; q++) {
                    own += fedInto[q * PURSES + p];
                    matrix[p * PURSES + q] = -fedInto[p * PURSES + q];
                }
                matrix[p * PURSES + p] = own;
            }
            bottom = determinant(NONE);
            for (int q = 0; q < PURSES; q++) {
                long top = determinant(q);
                netTop[q] = cameOrOne(q) * top;
                for (int p = 0; p < PURSES; p++) {
                    owedTop[p * PURSES + q] = fedInto[p * PURSES + q] * top;
                }
            }
        }

        private long cameOrOne(int p) {
            return came[p] == 0 ? 1 : came[p];
        }

        /** Of the matrix, with what the purses have in place of one column. */
        private long determinant(int replaced) {
            return cell(0, 0, replaced) * minor(1, 2, replaced)
                - cell(0, 1, replaced) * minor(0, 2, replaced)
                + cell(0, 2, replaced) * minor(0, 1, replaced);
        }

        private long minor(int left, int right, int replaced) {
            return cell(1, left, replaced) * cell(2, right, replaced)
                - cell(1, right, replaced) * cell(2, left, replaced);
        }

        private long cell(int line, int column, int replaced) {
            return column == replaced ? has[line] : matrix[line * PURSES + column];
        }
    }

    /** The numbers that BODIES leave as they begin. */
    private static final class Trace {
        private static final int MOST_NUMBERS = 16;

        final int[] numbers = new int[MOST_NUMBERS];
        int length;

        void clear() {
            length = 0;
        }

        void leave(int number) {
            if (length < MOST_NUMBERS) {
                numbers[length] = number;
                length++;
            }
        }
    }

    private abstract static class Thing {
        final int number;
        final Course course;
        final Trace left;

        Thing(int number, Course course, Trace left) {
            this.number = number;
            this.course = course;
            this.left = left;
        }

        long size() {
            left.leave(10);
            return course.worth[number];
        }

        long mark() {
            left.leave(20);
            return number;
        }
    }

    private static class Own extends Thing {
        Own(int number, Course course, Trace left) {
            super(number, course, left);
        }

        long size() {
            left.leave(11);
            return super.size() + mark();
        }

        long mark() {
            left.leave(21);
            return super.mark() + 10 * course.inPurse[number];
        }
    }

    private static class Fed extends Own {
        Fed(int number, Course course, Trace left) {
            super(number, course, left);
        }

        long size() {
            left.leave(12);
            return super.size() - course.putsInto[number];
        }
    }

    private static final class Changed extends Fed {
        Changed(int number, Course course, Trace left) {
            super(number, course, left);
        }

        long size() {
            left.leave(13);
            return super.size() * 2;
        }

        long mark() {
            left.leave(23);
            return super.mark() + 100;
        }
    }

    private static class Common extends Thing {
        Common(int number, Course course, Trace left) {
            super(number, course, left);
        }

        long size() {
            left.leave(14);
            return super.size() * 3;
        }
    }

    private static final class Made extends Common {
        Made(int number, Course course, Trace left) {
            super(number, course, left);
        }

        long mark() {
            left.leave(22);
            return super.mark() + size();
        }
    }
}
