import java.util.Arrays;

/** A town whose people see only what moves: see README.md. */
public final class StillTown {
    public static final int NONE = -1;

    // STATUS
    private static final int FINE = 0;
    private static final int BAD_NUMBER = 1;
    private static final int MISSING = 2;
    private static final int NO_PLACE = 3;
    private static final int TOO_MANY = 4;
    private static final int BAD_IN_TRAY = 5;
    private static final int NONE_SUCH = 6;
    private static final int UNLIKE = 8;
    private static final int FAULTY = 9;

    // FAULTS
    private static final int FAULT_NO_TOKEN = 1;
    private static final int FAULT_STANDS = 2;
    private static final int FAULT_NAME = 3;
    private static final int FAULT_NUMBER = 4;
    private static final int FAULT_TWICE = 5;
    private static final int FAULT_MORE = 6;
    private static final int FAULT_DEEP = 7;

    // bounds of the document
    private static final int MOST_CELLS = 48;
    private static final int MOST_PEOPLE = 8;
    private static final int MOST_TREES = 8;
    private static final int MOST_LAMPS = 8;
    private static final int MOST_CARTS = 4;
    private static final int MOST_WAYS = 8;
    private static final int MOST_BYTES = 900;
    private static final int MOST_PLAN_BYTES = 300;
    private static final int MOST_MOVES = 40;
    private static final int MOST_MARKS = 3;
    private static final int MINUTES = 60;
    private static final int SHORT_SEARCH = 30;
    /** Minute 0, and behind each of the 60. */
    private static final int TIMES = 61;
    private static final int FARTHEST = 9;
    private static final int LAST_SEED = 9999;
    private static final int MOST_DAYS = 30;
    private static final int SURELY = 1_000_000;

    // what a PERSON does in a minute
    private static final int STILL = 0;
    private static final int STEP = 1;
    private static final int SLOW = 2;
    private static final int TURN = 3;
    private static final int SIGN = 4;
    private static final int KINDS = 5;
    private static final int FULL = 16;

    // where the WEIGHTS that SEEN tells stand in its row
    private static final int SEEN_SELF = 3;
    private static final int SEEN_COUNT = 4;
    private static final int[] SEEN_WITHOUT = {4, 8, 2, 16};

    // WAYS, round by the right from n
    private static final int WAYS = 8;
    private static final int[] EAST = {0, 1, 1, 1, 0, -1, -1, -1};
    private static final int[] SOUTH = {-1, -1, 0, 1, 1, 1, 0, -1};

    // words that are no NAME, by their numbers in this row; a WAY's is its own
    private static final String WORDS =
        "n ne e se s sw w nw size wall to tree sways cart goes lamp person at looks far hides from shows seen slow turn sign self does step still loop end";
    private static final int WORD_COUNT = 33;
    private static final int WORD_SIZE = 8;
    private static final int WORD_WALL = 9;
    private static final int WORD_TO = 10;
    private static final int WORD_TREE = 11;
    private static final int WORD_SWAYS = 12;
    private static final int WORD_CART = 13;
    private static final int WORD_GOES = 14;
    private static final int WORD_LAMP = 15;
    private static final int WORD_PERSON = 16;
    private static final int WORD_AT = 17;
    private static final int WORD_LOOKS = 18;
    private static final int WORD_FAR = 19;
    private static final int WORD_HIDES = 20;
    private static final int WORD_FROM = 21;
    private static final int WORD_SHOWS = 22;
    private static final int WORD_SEEN = 23;
    private static final int WORD_SLOW = 24;
    private static final int WORD_TURN = 25;
    private static final int WORD_SIGN = 26;
    private static final int WORD_DOES = 28;
    private static final int WORD_STEP = 29;
    private static final int WORD_STILL = 30;
    private static final int WORD_LOOP = 31;
    private static final int WORD_END = 32;

    private int status = FINE;
    private long top = 0;
    private long bottom = 1;
    private final Trays trays = new Trays();
    private final Tape tape = new Tape();
    private Town town = new Town();
    private Town spare = new Town();
    private final TownReader townReader = new TownReader(tape, spare);
    private final PlanReader planReader = new PlanReader(tape);
    private final Town[] marks = {new Town(), new Town(), new Town()};
    private int markCount = 0;
    private final Course course = new Course(town);
    private final Stealth stealth = new Stealth(course);
    private final Search search = new Search(course);
    private final Day latestDay = new Day();
    private final Day triedDay = new Day();

    public StillTown() {
    }

    public int status() {
        return status;
    }

    public long top() {
        return top;
    }

    public long bottom() {
        return bottom;
    }

    // ---- TRAYS

    public boolean tray(int tray, int sort, int many) {
        if (!Trays.isTray(tray) || !within(sort, 0, 3) || !within(many, 0, Trays.MOST_NUMBERS)) {
            return deny(BAD_NUMBER);
        }
        trays.lay(tray, sort, many);
        return affirm();
    }

    public boolean write(int tray, int place, long v) {
        int fault = trays.placeStatus(tray, place);
        if (fault != FINE) {
            return deny(fault);
        }
        trays.put(tray, place, v);
        return affirm();
    }

    public long read(int tray, int place) {
        int fault = trays.placeStatus(tray, place);
        if (fault != FINE) {
            return refuse(fault);
        }
        return answerSet(trays.take(tray, place));
    }

    public boolean pour(int from, int place, int to, int at, int many) {
        int fault = trays.pourStatus(from, place, to, at, many);
        if (fault != FINE) {
            return deny(fault);
        }
        trays.shift(from, place, to, at, many);
        return affirm();
    }

    // ---- texts

    public int feed(int a, int b, int c, int d, int e) {
        if (tape.size + 20 > MOST_BYTES) {
            return NONE;
        }
        tape.append(a);
        tape.append(b);
        tape.append(c);
        tape.append(d);
        tape.append(e);
        return tape.size;
    }

    public int town(int n) {
        if (!within(n, 0, tape.size)) {
            return refuse(BAD_NUMBER);
        }
        tape.begin(n);
        if (!townReader.readInto(spare)) {
            return refuse(FAULTY);
        }
        tape.praise();
        Town old = town;
        town = spare;
        spare = old;
        course.follow(town);
        return answer(course.grid.cells);
    }

    public int plan(int n) {
        if (!within(n, 0, Math.min(tape.size, MOST_PLAN_BYTES))) {
            return refuse(BAD_NUMBER);
        }
        tape.begin(n);
        if (!planReader.readFor(town.people)) {
            return refuse(FAULTY);
        }
        tape.praise();
        town.takeScript(planReader.script);
        course.follow(town);
        return answer(planReader.moves);
    }

    public int fault(int what) {
        if (what == 0) {
            return tape.fault;
        }
        return what == 1 ? tape.faultPlace : NONE;
    }

    public int told(int what) {
        switch (what) {
            case 0: return answer(town.width);
            case 1: return answer(town.height);
            case 2: return answer(Long.bitCount(town.trees));
            case 3: return answer(town.cartCount);
            case 4: return answer(town.lampCount);
            case 5: return answer(town.people.count);
            default: break;
        }
        if (!within(what, 6, 9)) {
            return refuse(BAD_NUMBER);
        }
        return answer(town.seen[what - 6]);
    }

    public int wall(int cell) {
        if (!isCell(cell)) {
            return refuse(BAD_NUMBER);
        }
        return answer(has(town.walls, cell) ? 1 : 0);
    }

    public int sways(int cell) {
        if (!isCell(cell)) {
            return refuse(BAD_NUMBER);
        }
        return answer(town.sways[cell]);
    }

    public int cart(int cart, int minute) {
        if (!within(cart, 0, town.cartCount - 1) || !isTime(minute)) {
            return refuse(BAD_NUMBER);
        }
        return answer(course.cartCell(cart, minute));
    }

    public int lamp(int lamp) {
        if (!within(lamp, 0, town.lampCount - 1)) {
            return refuse(BAD_NUMBER);
        }
        return answer(town.lampCells[lamp]);
    }

    public int person(int person, int what) {
        if (!isPerson(person) || !within(what, 0, 2)) {
            return refuse(BAD_NUMBER);
        }
        if (what == 0) {
            return answer(town.people.fars[person]);
        }
        return answer(what == 1 ? town.people.watchers[person] : town.people.viewers[person]);
    }

    // ---- who sees whom

    public int at(int person, int minute) {
        if (!isPerson(person) || !isTime(minute)) {
            return refuse(BAD_NUMBER);
        }
        return answer(course.cellOf(person, minute));
    }

    public int looks(int person, int minute) {
        if (!isPerson(person) || !isTime(minute)) {
            return refuse(BAD_NUMBER);
        }
        return answer(course.lookOf(person, minute));
    }

    public int did(int person, int minute) {
        if (!isPerson(person) || !isMinute(minute)) {
            return refuse(BAD_NUMBER);
        }
        return answer(course.moveOf(person, minute));
    }

    public long sight(int person, int minute) {
        if (!isPerson(person) || !isTime(minute)) {
            return refuse(BAD_NUMBER);
        }
        return answerSet(course.viewOf(person, minute));
    }

    public int weight(int who, int whom, int minute) {
        if (!areTwo(who, whom) || !isMinute(minute)) {
            return refuse(BAD_NUMBER);
        }
        return answer(course.weightOf(who, whom, minute));
    }

    public int unseen(int person, int by, int minute) {
        if (!areTwo(person, by) || !isTime(minute)) {
            return refuse(BAD_NUMBER);
        }
        int chance = SURELY;
        for (int t = 1; t <= minute; t++) {
            chance = lessened(chance, course.weightOf(by, person, t));
        }
        return answer(chance);
    }

    public int near(int person, int by, int minute) {
        if (!areTwo(person, by) || !isTime(minute)) {
            return refuse(BAD_NUMBER);
        }
        int count = 0;
        for (int t = 1; t <= minute; t++) {
            count += course.isNear(person, by, t) ? 1 : 0;
        }
        return answer(count);
    }

    public int first(int who, int whom, int weight) {
        if (!areTwo(who, whom) || !within(weight, 1, FULL)) {
            return refuse(BAD_NUMBER);
        }
        for (int t = 1; t <= MINUTES; t++) {
            if (course.weightOf(who, whom, t) >= weight) {
                return answer(t);
            }
        }
        return refuse(NONE_SUCH);
    }

    public int judged(int what) {
        if (!within(what, 0, 2)) {
            return refuse(BAD_NUMBER);
        }
        for (int t = 1; t <= MINUTES; t++) {
            for (int who = 0; who < town.people.count; who++) {
                int by = course.firstWatcherSeeing(who, t);
                if (by != NONE) {
                    return answer(what == 0 ? t : what == 1 ? who : by);
                }
            }
        }
        return refuse(NONE_SUCH);
    }

    // ---- ways

    public int way(int person, int cell) {
        if (!isPerson(person) || !isFree(cell)) {
            return refuse(BAD_NUMBER);
        }
        return answerIfAny(stealth.soonestUnseen(person, cell));
    }

    public int wayCell(int minute) {
        if (!within(minute, 0, stealth.pathLength)) {
            return refuse(NONE_SUCH);
        }
        return answer(stealth.path[minute]);
    }

    public int likeliest(int person, int cell, int minutes) {
        if (!isPerson(person) || !isFree(cell) || !isMinute(minutes)) {
            return refuse(BAD_NUMBER);
        }
        return answerIfAny(stealth.greatestUnseen(person, cell, minutes));
    }

    public int shown(int person) {
        if (!isPerson(person)) {
            return refuse(BAD_NUMBER);
        }
        return answerIfAny(stealth.soonestShown(person));
    }

    public int found(int person, long cells) {
        if (!isPerson(person) || (cells & ~course.grid.all) != 0 || Long.bitCount(cells) > Search.MOST_SOUGHT) {
            return refuse(BAD_NUMBER);
        }
        return answerIfAny(search.soonestFound(person, cells));
    }

    public long mayBe(int who, int cell, int minutes) {
        if (!isPerson(who) || !isFree(cell) || !isTime(minutes)) {
            return refuse(BAD_NUMBER);
        }
        return answerSet(search.whereabouts(who, cell, minutes));
    }

    public int meeting(int a, int b) {
        if (!areTwo(a, b)) {
            return refuse(BAD_NUMBER);
        }
        return answerIfAny(search.soonestMeeting(a, b));
    }

    public int hunted(int hunter, int hider) {
        if (!isFree(hunter) || !isFree(hider)) {
            return refuse(BAD_NUMBER);
        }
        return answerIfAny(search.soonestHad(hunter, hider));
    }

    // ---- lamps, words

    public int lamps(int n) {
        if (!within(n, 0, MOST_LAMPS)) {
            return refuse(BAD_NUMBER);
        }
        return answerIfAny(search.leastLamps(n));
    }

    public int words(int tray, int many, int kinds) {
        int fault = trays.wordsStatus(tray, many, kinds);
        if (fault != FINE) {
            return refuse(fault);
        }
        return answer(trays.fewestMoves(tray, many, kinds));
    }

    // ---- what moves

    public int moving(int minute) {
        if (!isMinute(minute)) {
            return refuse(BAD_NUMBER);
        }
        int count = 0;
        for (int person = 0; person < town.people.count; person++) {
            count += course.moveOf(person, minute) != STILL ? 1 : 0;
        }
        for (int cart = 0; cart < town.cartCount; cart++) {
            count += course.cartMoved(cart, minute) ? 1 : 0;
        }
        return answer(count);
    }

    public int gone(int person) {
        if (!isPerson(person)) {
            return refuse(BAD_NUMBER);
        }
        int count = 0;
        for (int t = 1; t <= MINUTES; t++) {
            count += course.seesMovement(person, t) ? 0 : 1;
        }
        return answer(count);
    }

    public int stands(int person, int minute) {
        if (!isPerson(person) || !isTime(minute)) {
            return refuse(BAD_NUMBER);
        }
        int set = 0;
        for (int other = 0; other < town.people.count; other++) {
            // one's own CELL is never IN SIGHT, so that one is not in the set
            if (has(course.viewOf(person, minute), course.cellOf(other, minute))) {
                set |= 1 << other;
            }
        }
        return answer(set);
    }

    public int stood(int person, int by) {
        if (!areTwo(person, by)) {
            return refuse(BAD_NUMBER);
        }
        int most = 0;
        int onEnd = 0;
        for (int t = 1; t <= MINUTES; t++) {
            onEnd = course.isNear(person, by, t) ? onEnd + 1 : 0;
            most = Math.max(most, onEnd);
        }
        return answer(most);
    }

    public int followed(int person, int whom, int far) {
        if (!areTwo(person, whom) || !within(far, 1, FARTHEST)) {
            return refuse(BAD_NUMBER);
        }
        return answer(stealth.longestFollowed(person, whom, far));
    }

    public int signs(int person, int by, int most) {
        if (!areTwo(person, by) || !within(most, 0, SURELY - 1)) {
            return refuse(BAD_NUMBER);
        }
        int cell = town.people.cells[person];
        int chance = SURELY;
        for (int t = 1; t <= MINUTES; t++) {
            chance = lessened(chance, course.weightAs(by, cell, SIGN, t));
            if (chance <= most) {
                return answer(t);
            }
        }
        return refuse(NONE_SUCH);
    }

    public int swept(int person, int minutes) {
        if (!isPerson(person) || !isTime(minutes)) {
            return refuse(BAD_NUMBER);
        }
        return answer(search.cellsSwept(person, minutes));
    }

    public int gallery(int n) {
        if (!within(n, 0, MOST_PEOPLE)) {
            return refuse(BAD_NUMBER);
        }
        return answerIfAny(search.leastGallery(n));
    }

    // ---- days

    public int day(int seed) {
        if (!within(seed, 0, LAST_SEED)) {
            return refuse(BAD_NUMBER);
        }
        latestDay.pass(course, seed);
        return answer(latestDay.times);
    }

    public int saw(int person) {
        if (!within(person, 0, MOST_PEOPLE - 1)) {
            return refuse(BAD_NUMBER);
        }
        if (person >= latestDay.people) {
            return refuse(NONE_SUCH);
        }
        return answer(latestDay.seen[person]);
    }

    public int caught() {
        return latestDay.people == NONE ? refuse(NONE_SUCH) : answer(latestDay.hidersSeen);
    }

    public boolean safe(int seed, int many) {
        if (!within(many, 1, MOST_DAYS) || !within(seed, 0, LAST_SEED + 1 - many)) {
            return deny(BAD_NUMBER);
        }
        int count = 0;
        for (int i = 0; i < many; i++) {
            triedDay.pass(course, seed + i);
            count += triedDay.hidersSeen == 0 ? 1 : 0;
        }
        tellFraction(count, many);
        return affirm();
    }

    // ---- MARKS

    public int mark() {
        if (markCount >= MOST_MARKS) {
            return refuse(TOO_MANY);
        }
        marks[markCount].copyFrom(town);
        markCount++;
        return answer(markCount);
    }

    public int back() {
        if (markCount <= 0) {
            return refuse(NONE_SUCH);
        }
        markCount--;
        town.copyFrom(marks[markCount]);
        course.follow(town);
        return answer(markCount);
    }

    // ---- answers

    private int refuse(int why) {
        status = why;
        return NONE;
    }

    private boolean deny(int why) {
        status = why;
        return false;
    }

    private int answer(int value) {
        status = FINE;
        return value;
    }

    private long answerSet(long value) {
        status = FINE;
        return value;
    }

    private int answerIfAny(int value) {
        return value == NONE ? refuse(NONE_SUCH) : answer(value);
    }

    private boolean affirm() {
        status = FINE;
        return true;
    }

    private void tellFraction(int over, int under) {
        int divisor = over;
        int rest = under;
        // Euclid's steps for numbers up to 30 are fewer than 30
        for (int i = 0; i < 30 && rest != 0; i++) {
            int left = divisor % rest;
            divisor = rest;
            rest = left;
        }
        if (divisor > 0) {
            top = over / divisor;
            bottom = under / divisor;
        }
    }

    // ---- what there is

    private boolean isPerson(int person) {
        return person >= 0 && person < town.people.count;
    }

    private boolean areTwo(int a, int b) {
        return isPerson(a) && isPerson(b) && a != b;
    }

    private boolean isCell(int cell) {
        return cell >= 0 && cell < course.grid.cells;
    }

    private boolean isFree(int cell) {
        return isCell(cell) && !has(town.walls, cell);
    }

    private static boolean isTime(int minute) {
        return within(minute, 0, MINUTES);
    }

    private static boolean isMinute(int minute) {
        return within(minute, 1, MINUTES);
    }

    private static boolean within(int value, int least, int most) {
        return value >= least && value <= most;
    }

    private static boolean has(long set, int member) {
        return (set >>> member & 1) != 0;
    }

    /** UNSEEN behind a minute more, in which WEIGHT was this. */
    private static int lessened(int chance, int weight) {
        return chance * (FULL - weight) / FULL;
    }

    /** The rows of numbers. */
    private static final class Trays {
        static final int COUNT = 4;
        static final int MOST_NUMBERS = 60;
        static final int MOST_WORDS = 20;
        static final int MOST_KINDS = 8;
        static final int MOST_USES = 9999;

        final long[][] rows = new long[COUNT][MOST_NUMBERS];
        final int[] sorts = new int[COUNT];
        final int[] sizes = {NONE, NONE, NONE, NONE};
        final int[] heap = new int[MOST_WORDS + MOST_KINDS];

        static boolean isTray(int tray) {
            return tray >= 0 && tray < COUNT;
        }

        boolean isMissing(int tray) {
            return sizes[tray] == NONE;
        }

        void lay(int tray, int sort, int many) {
            Arrays.fill(rows[tray], 0);
            sorts[tray] = sort;
            sizes[tray] = many;
        }

        int placeStatus(int tray, int place) {
            if (!isTray(tray)) {
                return BAD_NUMBER;
            }
            if (isMissing(tray)) {
                return MISSING;
            }
            return place >= 0 && place < sizes[tray] ? FINE : NO_PLACE;
        }

        void put(int tray, int place, long v) {
            switch (sorts[tray]) {
                case 0: rows[tray][place] = (byte) v; break;
                case 1: rows[tray][place] = (short) v; break;
                case 2: rows[tray][place] = (int) v; break;
                default: rows[tray][place] = v; break;
            }
        }

        long take(int tray, int place) {
            return rows[tray][place];
        }

        int pourStatus(int from, int place, int to, int goal, int many) {
            if (!isTray(from) || !isTray(to) || place < 0 || goal < 0 || many < 0) {
                return BAD_NUMBER;
            }
            if (isMissing(from) || isMissing(to)) {
                return MISSING;
            }
            if (sorts[from] != sorts[to]) {
                return UNLIKE;
            }
            return place <= sizes[from] - many && goal <= sizes[to] - many ? FINE : NO_PLACE;
        }

        void shift(int from, int place, int to, int goal, int many) {
            System.arraycopy(rows[from], place, rows[to], goal, many);
        }

        int wordsStatus(int tray, int many, int kinds) {
            if (!isTray(tray) || !within(many, 2, MOST_WORDS) || !within(kinds, 2, MOST_KINDS)) {
                return BAD_NUMBER;
            }
            if (isMissing(tray)) {
                return MISSING;
            }
            if (sizes[tray] < many) {
                return NO_PLACE;
            }
            for (int i = 0; i < many; i++) {
                if (rows[tray][i] < 0 || rows[tray][i] > MOST_USES) {
                    return BAD_IN_TRAY;
                }
            }
            return FINE;
        }

        /** Joins the least used again and again; words of no use fill up the first joining. */
        int fewestMoves(int tray, int many, int kinds) {
            int count = 0;
            for (int i = 0; i < many; i++) {
                heap[count++] = (int) rows[tray][i];
            }
            for (int i = 0; i < MOST_KINDS && (count - 1) % (kinds - 1) != 0; i++) {
                heap[count++] = 0;
            }
            int moves = 0;
            for (int i = 0; i < MOST_WORDS && count > 1; i++) {
                int joined = 0;
                for (int k = 0; k < kinds; k++) {
                    joined += takeLeast(count--);
                }
                heap[count++] = joined;
                moves += joined;
            }
            return moves;
        }

        private int takeLeast(int count) {
            int least = 0;
            for (int i = 1; i < count; i++) {
                if (heap[i] < heap[least]) {
                    least = i;
                }
            }
            int value = heap[least];
            heap[least] = heap[count - 1];
            return value;
        }
    }

    /** The bytes that are fed, and the text of them that is read TOKEN by TOKEN; the latest FAULT. */
    private static final class Tape {
        static final int AT_END = 0;
        static final int NUMBER = 1;
        static final int WORD = 2;
        static final int STOP = 3;
        static final int NO_TOKEN = 4;
        static final int BLANK = 5;
        static final int MOST_LETTERS = 8;
        static final int MOST_DIGITS = 4;
        static final int BITS_OF_LETTER = 5;

        final int[] bytes = new int[MOST_BYTES];
        /** What kind of TOKEN a byte begins. */
        private final int[] sorts = new int[256];
        private final long[] wordCodes = new long[WORD_COUNT];
        int size = 0;
        private int length = 0;
        private int next = 0;
        int kind = AT_END;
        private int place = 0;
        int value = 0;
        /** The letters of a WORD, five bits each; 0 where it is too long for a NAME. */
        long code = 0;
        int keyword = NONE;
        int fault = NONE;
        int faultPlace = NONE;

        Tape() {
            Arrays.fill(sorts, NO_TOKEN);
            for (int digit = '0'; digit <= '9'; digit++) {
                sorts[digit] = NUMBER;
            }
            for (int letter = 'a'; letter <= 'z'; letter++) {
                sorts[letter] = WORD;
            }
            sorts[';'] = STOP;
            sorts[' '] = BLANK;
            sorts['\n'] = BLANK;
            int word = 0;
            for (int i = 0; i < WORDS.length(); i++) {
                char sign = WORDS.charAt(i);
                if (sign == ' ') {
                    word++;
                } else if (word < WORD_COUNT) {
                    wordCodes[word] = wordCodes[word] << BITS_OF_LETTER | sign - 'a' + 1;
                }
            }
        }

        void append(int four) {
            for (int shift = 24; shift >= 0 && size < MOST_BYTES; shift -= 8) {
                bytes[size++] = four >>> shift & 255;
            }
        }

        void begin(int n) {
            length = n;
            next = 0;
            size = 0;
        }

        void praise() {
            fault = 0;
            faultPlace = NONE;
        }

        /** Notes a FAULT of the latest TOKEN; false, so that a reader can return it. */
        boolean blame(int what) {
            fault = what;
            faultPlace = place;
            return false;
        }

        /** The latest TOKEN can't stand where it is. */
        boolean blameToken() {
            fault = kind == NO_TOKEN ? FAULT_NO_TOKEN : FAULT_STANDS;
            faultPlace = place;
            return false;
        }

        /** Goes on to the next TOKEN. */
        void advance() {
            while (next < length && sorts[bytes[next]] == BLANK) {
                next++;
            }
            place = next;
            kind = next < length ? sorts[bytes[next]] : AT_END;
            if (kind == WORD || kind == NUMBER) {
                while (next < length && sorts[bytes[next]] == kind) {
                    next++;
                }
            } else if (kind != AT_END) {
                next++;
            }
            if (kind == NUMBER && next - place > MOST_DIGITS) {
                kind = NO_TOKEN;
            }
            value = 0;
            code = 0;
            keyword = NONE;
            if (kind == NUMBER) {
                for (int i = place; i < next; i++) {
                    value = value * 10 + bytes[i] - '0';
                }
            }
            if (kind == WORD && next - place <= MOST_LETTERS) {
                for (int i = place; i < next; i++) {
                    code = code << BITS_OF_LETTER | bytes[i] - 'a' + 1;
                }
                for (int word = 0; word < WORD_COUNT; word++) {
                    keyword = wordCodes[word] == code ? word : keyword;
                }
            }
        }

        boolean isWay() {
            return keyword >= 0 && keyword < WAYS;
        }

        boolean isName() {
            return kind == WORD && keyword == NONE && code != 0;
        }

        boolean takeWord(int word) {
            advance();
            return keyword == word || blameToken();
        }

        boolean takeWay() {
            advance();
            return isWay() || blameToken();
        }

        boolean takeName() {
            advance();
            return isName() || blameToken();
        }

        boolean takeStop() {
            advance();
            return kind == STOP || blameToken();
        }

        boolean takeNumber(int least, int most) {
            advance();
            if (kind != NUMBER) {
                return blameToken();
            }
            return within(value, least, most) || blame(FAULT_NUMBER);
        }
    }

    /** The PEOPLE of a TOWN as its text tells them. */
    private static final class People {
        int count = 0;
        final long[] names = new long[MOST_PEOPLE];
        final int[] cells = new int[MOST_PEOPLE];
        final int[] looks = new int[MOST_PEOPLE];
        final int[] fars = new int[MOST_PEOPLE];
        final int[] watchers = new int[MOST_PEOPLE];
        /** Those to whom each one SHOWS. */
        final int[] viewers = new int[MOST_PEOPLE];

        int numberOf(long name) {
            for (int i = 0; i < count; i++) {
                if (names[i] == name) {
                    return i;
                }
            }
            return NONE;
        }

        void add(long name, int cell, int look, int far) {
            names[count] = name;
            cells[count] = cell;
            looks[count] = look;
            fars[count] = far;
            watchers[count] = 0;
            viewers[count] = 0;
            count++;
        }

        boolean anyAt(long set) {
            for (int i = 0; i < count; i++) {
                if (has(set, cells[i])) {
                    return true;
                }
            }
            return false;
        }

        void copyFrom(People other) {
            count = other.count;
            System.arraycopy(other.names, 0, names, 0, MOST_PEOPLE);
            System.arraycopy(other.cells, 0, cells, 0, MOST_PEOPLE);
            System.arraycopy(other.looks, 0, looks, 0, MOST_PEOPLE);
            System.arraycopy(other.fars, 0, fars, 0, MOST_PEOPLE);
            System.arraycopy(other.watchers, 0, watchers, 0, MOST_PEOPLE);
            System.arraycopy(other.viewers, 0, viewers, 0, MOST_PEOPLE);
        }
    }

    /** A TOWN with its PLAN: all that a MARK keeps. */
    private static final class Town {
        int width = 0;
        int height = 0;
        long walls = 0;
        long trees = 0;
        final int[] sways = new int[MOST_CELLS];
        int cartCount = 0;
        final int[] cartStarts = new int[MOST_CARTS];
        final int[] cartWayCounts = new int[MOST_CARTS];
        final int[] cartWays = new int[MOST_CARTS * MOST_WAYS];
        int lampCount = 0;
        final int[] lampCells = new int[MOST_LAMPS];
        /** With how many sixteenths slow, turn, sign, SELF are seen. */
        final int[] seen = new int[SEEN_COUNT];
        final People people = new People();
        /** What each one is to do in each minute: eight times the kind of move, and the WAY. */
        final int[] script = new int[MOST_PEOPLE * MINUTES];

        Town() {
            System.arraycopy(SEEN_WITHOUT, 0, seen, 0, SEEN_COUNT);
        }

        void clear() {
            width = 0;
            height = 0;
            walls = 0;
            trees = 0;
            Arrays.fill(sways, 0);
            cartCount = 0;
            lampCount = 0;
            System.arraycopy(SEEN_WITHOUT, 0, seen, 0, SEEN_COUNT);
            people.count = 0;
            Arrays.fill(script, 0);
        }

        void copyFrom(Town other) {
            width = other.width;
            height = other.height;
            walls = other.walls;
            trees = other.trees;
            System.arraycopy(other.sways, 0, sways, 0, MOST_CELLS);
            cartCount = other.cartCount;
            System.arraycopy(other.cartStarts, 0, cartStarts, 0, MOST_CARTS);
            System.arraycopy(other.cartWayCounts, 0, cartWayCounts, 0, MOST_CARTS);
            System.arraycopy(other.cartWays, 0, cartWays, 0, MOST_CARTS * MOST_WAYS);
            lampCount = other.lampCount;
            System.arraycopy(other.lampCells, 0, lampCells, 0, MOST_LAMPS);
            System.arraycopy(other.seen, 0, seen, 0, SEEN_COUNT);
            people.copyFrom(other.people);
            takeScript(other.script);
        }

        void takeScript(int[] other) {
            System.arraycopy(other, 0, script, 0, MOST_PEOPLE * MINUTES);
        }

        boolean anyLampAt(long set) {
            for (int i = 0; i < lampCount; i++) {
                if (has(set, lampCells[i])) {
                    return true;
                }
            }
            return false;
        }

        /** The WEIGHT of a move where it is seen; of being still: for one who moves itself. */
        int weightOn(int cell, int move) {
            int plain = FULL;
            if (move == STILL) {
                plain = seen[SEEN_SELF];
            } else if (move != STEP) {
                plain = seen[move - SLOW];
            }
            return plain * (FULL - sways[cell]) / FULL;
        }
    }

    /** Reads the TEXT of a TOWN. */
    private static final class TownReader {
        final Tape tape;
        private Town town;
        private int x = 0;
        private int y = 0;
        private boolean seenTold = false;

        TownReader(Tape tape, Town town) {
            this.tape = tape;
            this.town = town;
        }

        /** False with a FAULT on the tape; what it filled till then is to be dropped. */
        boolean readInto(Town empty) {
            town = empty;
            town.clear();
            seenTold = false;
            if (!readSize()) {
                return false;
            }
            for (int part = 0; part < MOST_BYTES; part++) {
                tape.advance();
                if (tape.kind == Tape.AT_END) {
                    return true;
                }
                if (!readPart()) {
                    return false;
                }
            }
            return tape.blameToken();
        }

        private boolean readSize() {
            if (!tape.takeWord(WORD_SIZE) || !tape.takeNumber(2, 8)) {
                return false;
            }
            town.width = tape.value;
            if (!tape.takeNumber(2, 6)) {
                return false;
            }
            town.height = tape.value;
            return tape.takeStop();
        }

        private boolean readPart() {
            switch (tape.keyword) {
                case WORD_WALL: return readWall();
                case WORD_TREE: return readTree();
                case WORD_CART: return readCart();
                case WORD_LAMP: return readLamp();
                case WORD_PERSON: return readPerson();
                case WORD_HIDES: return readPair(WORD_FROM, town.people.watchers);
                case WORD_SHOWS: return readPair(WORD_TO, town.people.viewers);
                case WORD_SEEN: return readSeen();
                default: return tape.blameToken();
            }
        }

        /** Reads the two NUMBERS of a CELL that does not lie west or north of this one. */
        private boolean readCell(int leastX, int leastY) {
            if (!tape.takeNumber(leastX, town.width - 1)) {
                return false;
            }
            x = tape.value;
            if (!tape.takeNumber(leastY, town.height - 1)) {
                return false;
            }
            y = tape.value;
            return true;
        }

        private int cell() {
            return y * town.width + x;
        }

        private boolean readWall() {
            if (!readCell(0, 0)) {
                return false;
            }
            int west = x;
            int north = y;
            if (!tape.takeWord(WORD_TO) || !readCell(west, north)) {
                return false;
            }
            long set = 0;
            for (int row = north; row <= y; row++) {
                for (int column = west; column <= x; column++) {
                    set |= 1L << row * town.width + column;
                }
            }
            if ((set & town.trees) != 0 || town.anyLampAt(set) || town.people.anyAt(set)) {
                return tape.blame(FAULT_TWICE);
            }
            town.walls |= set;
            return tape.takeStop();
        }

        private boolean readTree() {
            if (Long.bitCount(town.trees) >= MOST_TREES) {
                return tape.blame(FAULT_MORE);
            }
            if (!readCell(0, 0)) {
                return false;
            }
            if (has(town.walls | town.trees, cell())) {
                return tape.blame(FAULT_TWICE);
            }
            if (!tape.takeWord(WORD_SWAYS) || !tape.takeNumber(0, FULL)) {
                return false;
            }
            town.trees |= 1L << cell();
            town.sways[cell()] = tape.value;
            return tape.takeStop();
        }

        private boolean readCart() {
            int cart = town.cartCount;
            if (cart >= MOST_CARTS) {
                return tape.blame(FAULT_MORE);
            }
            if (!readCell(0, 0) || !tape.takeWord(WORD_GOES) || !tape.takeWay()) {
                return false;
            }
            town.cartStarts[cart] = cell();
            for (int count = 0; count < MOST_WAYS; count++) {
                town.cartWays[cart * MOST_WAYS + count] = tape.keyword;
                tape.advance();
                if (tape.kind == Tape.STOP) {
                    town.cartWayCounts[cart] = count + 1;
                    town.cartCount++;
                    return true;
                }
                if (!tape.isWay()) {
                    return tape.blameToken();
                }
            }
            return tape.blame(FAULT_MORE);
        }

        private boolean readLamp() {
            if (town.lampCount >= MOST_LAMPS) {
                return tape.blame(FAULT_MORE);
            }
            if (!readCell(0, 0)) {
                return false;
            }
            if (has(town.walls, cell()) || town.anyLampAt(1L << cell())) {
                return tape.blame(FAULT_TWICE);
            }
            town.lampCells[town.lampCount++] = cell();
            return tape.takeStop();
        }

        private boolean readPerson() {
            if (town.people.count >= MOST_PEOPLE) {
                return tape.blame(FAULT_MORE);
            }
            if (!tape.takeName()) {
                return false;
            }
            long name = tape.code;
            if (town.people.numberOf(name) != NONE) {
                return tape.blame(FAULT_NAME);
            }
            if (!tape.takeWord(WORD_AT) || !readCell(0, 0)) {
                return false;
            }
            if (has(town.walls, cell())) {
                return tape.blame(FAULT_TWICE);
            }
            if (!tape.takeWord(WORD_LOOKS) || !tape.takeWay()) {
                return false;
            }
            int look = tape.keyword;
            if (!tape.takeWord(WORD_FAR) || !tape.takeNumber(1, FARTHEST)) {
                return false;
            }
            town.people.add(name, cell(), look, tape.value);
            return tape.takeStop();
        }

        /** Reads who hides from whom, or shows to whom: that one comes to the first one's set. */
        private boolean readPair(int between, int[] sets) {
            int one = readKnown();
            if (one == NONE || !tape.takeWord(between)) {
                return false;
            }
            int other = readKnown();
            if (other == NONE) {
                return false;
            }
            if (other == one) {
                return tape.blame(FAULT_TWICE);
            }
            sets[one] |= 1 << other;
            return tape.takeStop();
        }

        /** The number of a PERSON told ahead; NONE with a FAULT. */
        private int readKnown() {
            if (!tape.takeName()) {
                return NONE;
            }
            int person = town.people.numberOf(tape.code);
            if (person == NONE) {
                tape.blame(FAULT_NAME);
            }
            return person;
        }

        private boolean readSeen() {
            if (seenTold) {
                return tape.blame(FAULT_TWICE);
            }
            seenTold = true;
            for (int i = 0; i < SEEN_COUNT; i++) {
                if (!tape.takeWord(WORD_SLOW + i) || !tape.takeNumber(0, FULL)) {
                    return false;
                }
                town.seen[i] = tape.value;
            }
            return tape.takeStop();
        }
    }

    /** Reads the TEXT of a PLAN into a script. */
    private static final class PlanReader {
        static final int MOST_DEPTH = 2;

        final Tape tape;
        final int[] script = new int[MOST_PEOPLE * MINUTES];
        int moves = 0;
        private final int[] loopStarts = new int[MOST_DEPTH];
        private final int[] loopTimes = new int[MOST_DEPTH];
        private int depth = 0;
        private int person = 0;
        private int filled = 0;
        private int planned = 0;

        PlanReader(Tape tape) {
            this.tape = tape;
        }

        /** False with a FAULT on the tape; the script is to be dropped then. */
        boolean readFor(People people) {
            Arrays.fill(script, 0);
            moves = 0;
            planned = 0;
            for (int line = 0; line < MOST_PLAN_BYTES; line++) {
                tape.advance();
                if (tape.kind == Tape.AT_END) {
                    return true;
                }
                if (!readWho(people) || !readMoves()) {
                    return false;
                }
            }
            return tape.blameToken();
        }

        private boolean readWho(People people) {
            if (!tape.isName()) {
                return tape.blameToken();
            }
            person = people.numberOf(tape.code);
            if (person == NONE) {
                return tape.blame(FAULT_NAME);
            }
            if (has(planned, person)) {
                return tape.blame(FAULT_TWICE);
            }
            planned |= 1 << person;
            depth = 0;
            filled = 0;
            return tape.takeWord(WORD_DOES);
        }

        private boolean readMoves() {
            for (int token = 0; token < MOST_PLAN_BYTES; token++) {
                tape.advance();
                if (tape.kind == Tape.STOP && depth == 0) {
                    return true;
                }
                if (tape.keyword == WORD_END && depth > 0) {
                    closeLoop();
                } else if (!readMove()) {
                    return false;
                }
            }
            return tape.blameToken();
        }

        private boolean readMove() {
            int word = tape.keyword;
            if (!isMove(word)) {
                return tape.blameToken();
            }
            if (moves >= MOST_MOVES) {
                return tape.blame(FAULT_MORE);
            }
            moves++;
            switch (word) {
                case WORD_STEP: return readWayOf(STEP);
                case WORD_SLOW: return readWayOf(SLOW);
                case WORD_TURN: return readWayOf(TURN);
                case WORD_STILL: return readStill();
                case WORD_LOOP: return openLoop();
                default: append(SIGN * WAYS); return true;
            }
        }

        private static boolean isMove(int word) {
            return word >= WORD_STEP && word <= WORD_LOOP || word >= WORD_SLOW && word <= WORD_SIGN;
        }

        private boolean readWayOf(int move) {
            if (!tape.takeWay()) {
                return false;
            }
            append(move * WAYS + tape.keyword);
            return true;
        }

        private boolean readStill() {
            if (!tape.takeNumber(1, MINUTES)) {
                return false;
            }
            for (int i = 0; i < tape.value; i++) {
                append(STILL);
            }
            return true;
        }

        private boolean openLoop() {
            if (depth >= MOST_DEPTH) {
                return tape.blame(FAULT_DEEP);
            }
            if (!tape.takeNumber(1, MINUTES)) {
                return false;
            }
            loopStarts[depth] = filled;
            loopTimes[depth] = tape.value;
            depth++;
            return true;
        }

        /** The MOVES within stand in the script once already. */
        private void closeLoop() {
            depth--;
            int start = loopStarts[depth];
            int body = filled - start;
            for (int i = 1; i < loopTimes[depth]; i++) {
                for (int k = 0; k < body; k++) {
                    append(script[person * MINUTES + start + k]);
                }
            }
        }

        private void append(int move) {
            if (filled < MINUTES) {
                script[person * MINUTES + filled] = move;
                filled++;
            }
        }
    }

    /** The CELLS of a TOWN: who is beside whom, and what one can look along. */
    private static final class Grid {
        int width = 0;
        int height = 0;
        int cells = 0;
        long all = 0;
        long free = 0;
        private long west = 0;
        private long east = 0;
        private final int[] columns = new int[MOST_CELLS];
        private final int[] rows = new int[MOST_CELLS];
        /** Worked out when they are first asked for; NONE till then, which no set of 48 CELLS is. */
        private final long[] lines = new long[MOST_CELLS * MOST_CELLS];
        private final long[] cones = new long[MOST_CELLS * WAYS];

        void shape(Town town) {
            if (town.width != width || town.height != height) {
                width = town.width;
                height = town.height;
                cells = width * height;
                Arrays.fill(lines, NONE);
                Arrays.fill(cones, NONE);
                lay();
            }
            free = all & ~town.walls;
        }

        private void lay() {
            all = 0;
            west = 0;
            east = 0;
            for (int y = 0; y < height; y++) {
                for (int x = 0; x < width; x++) {
                    int cell = y * width + x;
                    columns[cell] = x;
                    rows[cell] = y;
                    all |= 1L << cell;
                    west |= x == 0 ? 1L << cell : 0;
                    east |= x == width - 1 ? 1L << cell : 0;
                }
            }
        }

        /** All CELLS but WALLS that are one CELL on from one of a set. */
        long beside(long set) {
            long right = (set & ~east) << 1;
            long left = (set & ~west) >>> 1;
            long three = set | right | left;
            return (right | left | three << width | three >>> width) & free;
        }

        /** All CELLS but WALLS to which one comes a WAY on from one of a set. */
        long stepped(long set, int look) {
            int dx = EAST[look];
            long aside = dx > 0 ? (set & ~east) << 1 : dx < 0 ? (set & ~west) >>> 1 : set;
            int dy = SOUTH[look];
            return (dy > 0 ? aside << width : dy < 0 ? aside >>> width : aside) & free;
        }

        /** The CELL one on, be it a WALL; NONE out of the TOWN. */
        int next(int cell, int look) {
            int x = columns[cell] + EAST[look];
            int y = rows[cell] + SOUTH[look];
            return within(x, 0, width - 1) && within(y, 0, height - 1) ? y * width + x : NONE;
        }

        /** The CELL one on, or the same one where nobody can go on. */
        int nextFree(int cell, int look) {
            int goal = next(cell, look);
            return goal != NONE && has(free, goal) ? goal : cell;
        }

        int off(int from, int to) {
            int dx = columns[to] - columns[from];
            int dy = rows[to] - rows[from];
            int aside = dx < 0 ? -dx : dx;
            int along = dy < 0 ? -dy : dy;
            return aside > along ? aside : along;
        }

        long around(int cell, int far) {
            long set = 0;
            for (int to = 0; to < cells; to++) {
                if (off(cell, to) <= far) {
                    set |= 1L << to;
                }
            }
            return set;
        }

        /** The CELLS BETWEEN two that are n CELLS off one another. */
        long line(int from, int to, int n) {
            int key = from * MOST_CELLS + to;
            if (lines[key] == NONE) {
                int dx = columns[to] - columns[from];
                int dy = rows[to] - rows[from];
                long set = 0;
                for (int k = 1; k < n; k++) {
                    // a half more, rounded down, is to the nearest, halves up; within the TOWN none is below 0
                    int x = (2 * n * columns[from] + 2 * k * dx + n) / (2 * n);
                    int y = (2 * n * rows[from] + 2 * k * dy + n) / (2 * n);
                    set |= 1L << y * width + x;
                }
                lines[key] = set;
            }
            return lines[key];
        }

        /** The CELLS that lie the WAY one looks, however far. */
        long cone(int from, int look) {
            int key = from * WAYS + look;
            if (cones[key] == NONE) {
                long set = 0;
                for (int to = 0; to < cells; to++) {
                    int dx = columns[to] - columns[from];
                    int dy = rows[to] - rows[from];
                    int ahead = dx * EAST[look] + dy * SOUTH[look];
                    int aside = dx * SOUTH[look] - dy * EAST[look];
                    if (ahead > 0 && aside <= ahead && -aside <= ahead) {
                        set |= 1L << to;
                    }
                }
                cones[key] = set;
            }
            return cones[key];
        }

        /** All CELLS IN SIGHT. */
        long view(int from, int look, int far, long blocked) {
            long wanted = cone(from, look);
            long set = 0;
            for (int to = 0; to < cells; to++) {
                int n = off(from, to);
                if (has(wanted, to) && n <= far && (line(from, to, n) & blocked) == 0) {
                    set |= 1L << to;
                }
            }
            return set;
        }

        static int leastOf(long set) {
            for (int cell = 0; cell < MOST_CELLS; cell++) {
                if (has(set, cell)) {
                    return cell;
                }
            }
            return NONE;
        }
    }

    /** What everybody does minute by minute, and who sees what of it. */
    private static final class Course {
        final Grid grid = new Grid();
        Town town;
        /** WALLS, and CARTS behind each minute. */
        final long[] blocked = new long[TIMES];
        private final int[] cells = new int[MOST_PEOPLE * TIMES];
        private final int[] looks = new int[MOST_PEOPLE * TIMES];
        private final int[] moves = new int[MOST_PEOPLE * TIMES];
        private final int[] cartCells = new int[MOST_CARTS * TIMES];
        /** Worked out when they are first asked for; NONE till then. */
        private final long[] views = new long[MOST_PEOPLE * TIMES];
        private final int[] weights = new int[MOST_PEOPLE * MOST_PEOPLE * TIMES];

        Course(Town town) {
            this.town = town;
        }

        void follow(Town newTown) {
            town = newTown;
            grid.shape(town);
            Arrays.fill(views, NONE);
            Arrays.fill(weights, NONE);
            Arrays.fill(blocked, town.walls);
            for (int cart = 0; cart < town.cartCount; cart++) {
                drive(cart);
            }
            for (int person = 0; person < town.people.count; person++) {
                walk(person);
            }
        }

        private void drive(int cart) {
            int ways = Math.max(1, town.cartWayCounts[cart]);
            int cell = town.cartStarts[cart];
            for (int t = 0; t <= MINUTES; t++) {
                if (t > 0) {
                    int goal = grid.next(cell, town.cartWays[cart * MOST_WAYS + (t - 1) % ways]);
                    cell = goal == NONE ? cell : goal;
                }
                cartCells[cart * TIMES + t] = cell;
                blocked[t] |= 1L << cell;
            }
        }

        private void walk(int person) {
            int cell = town.people.cells[person];
            int look = town.people.looks[person];
            int place = person * TIMES;
            cells[place] = cell;
            looks[place] = look;
            moves[place] = STILL;
            for (int t = 1; t <= MINUTES; t++) {
                int script = town.script[person * MINUTES + t - 1];
                int move = script / WAYS;
                int wanted = script % WAYS;
                if (move == STEP || move == SLOW) {
                    int goal = grid.nextFree(cell, wanted);
                    move = goal == cell ? STILL : move;
                    cell = goal;
                }
                if (move == STEP || move == SLOW || move == TURN) {
                    look = wanted;
                }
                cells[place + t] = cell;
                looks[place + t] = look;
                moves[place + t] = move;
            }
        }

        int cellOf(int person, int minute) {
            return cells[person * TIMES + minute];
        }

        int lookOf(int person, int minute) {
            return looks[person * TIMES + minute];
        }

        int moveOf(int person, int minute) {
            return moves[person * TIMES + minute];
        }

        int cartCell(int cart, int minute) {
            return cartCells[cart * TIMES + minute];
        }

        boolean cartMoved(int cart, int minute) {
            return cartCell(cart, minute) != cartCell(cart, minute - 1);
        }

        /** Whether a PERSON moved so that what is still seems to move to it: a sign is not enough. */
        boolean moved(int person, int minute) {
            int move = moveOf(person, minute);
            return move == STEP || move == SLOW || move == TURN;
        }

        long viewOf(int person, int minute) {
            int key = person * TIMES + minute;
            if (views[key] == NONE) {
                views[key] = grid.view(cells[key], looks[key], town.people.fars[person], blocked[minute]);
            }
            return views[key];
        }

        /** WEIGHT with which a PERSON would see one who is on a CELL behind a minute and did so. */
        int weightAs(int who, int cell, int move, int minute) {
            if (!has(viewOf(who, minute), cell) || move == STILL && !moved(who, minute)) {
                return 0;
            }
            return town.weightOn(cell, move);
        }

        int weightOf(int who, int whom, int minute) {
            int key = (minute * MOST_PEOPLE + who) * MOST_PEOPLE + whom;
            if (weights[key] == NONE) {
                weights[key] = weightAs(who, cellOf(whom, minute), moveOf(whom, minute), minute);
            }
            return weights[key];
        }

        boolean isNear(int person, int by, int minute) {
            return grid.off(cellOf(person, minute), cellOf(by, minute)) <= town.people.fars[by]
                && weightOf(by, person, minute) == 0;
        }

        int firstWatcherSeeing(int person, int minute) {
            for (int by = 0; by < town.people.count; by++) {
                if (has(town.people.watchers[person], by) && weightOf(by, person, minute) > 0) {
                    return by;
                }
            }
            return NONE;
        }

        boolean seesMovement(int person, int minute) {
            for (int other = 0; other < town.people.count; other++) {
                if (other != person && weightOf(person, other, minute) > 0) {
                    return true;
                }
            }
            for (int cart = 0; cart < town.cartCount; cart++) {
                if (cartMoved(cart, minute) && has(viewOf(person, minute), cartCell(cart, minute))) {
                    return true;
                }
            }
            return false;
        }
    }

    /** WAYS of one who is not to be seen, or by some alone. */
    private static final class Stealth {
        static final int SETS = 1 << MOST_PEOPLE;

        final Course course;
        /** The latest UNSEEN WAY; a length of NONE while there was none. */
        int pathLength = NONE;
        final int[] path = new int[TIMES];
        /** CELLS on which each kind of move has WEIGHT, and those where it is 16, if IN SIGHT. */
        private final long[] faint = new long[KINDS];
        private final long[] full = new long[KINDS];
        private final long[] reached = new long[TIMES];
        private final long[] stillFits = new long[TIMES];
        private final long[] slowFits = new long[TIMES];
        private int[] best = new int[MOST_CELLS];
        private int[] better = new int[MOST_CELLS];
        /** By the set of those who have seen it, where it may be. */
        private long[] now = new long[SETS];
        private long[] then = new long[SETS];
        /** By kind of move and CELL, who sees it there with WEIGHT 16. */
        private final int[] gains = new int[KINDS * MOST_CELLS];
        private final long[] gaining = new long[KINDS];

        Stealth(Course course) {
            this.course = course;
        }

        private void weigh() {
            for (int move = STILL; move <= SIGN; move++) {
                faint[move] = 0;
                full[move] = 0;
                for (int cell = 0; cell < course.grid.cells; cell++) {
                    int weight = course.town.weightOn(cell, move);
                    faint[move] |= weight > 0 ? 1L << cell : 0;
                    full[move] |= weight >= FULL ? 1L << cell : 0;
                }
            }
        }

        /** Of some CELLS those where a PERSON sees such a move behind a minute. */
        private long seenOn(long cells, int by, int move, int minute) {
            if (move == STILL && !course.moved(by, minute)) {
                return 0;
            }
            return cells & course.viewOf(by, minute);
        }

        /** The CELLS on which none of these PEOPLE sees such a move. */
        private long unseenOn(int watchers, int move, int minute) {
            long seen = 0;
            for (int by = 0; by < course.town.people.count; by++) {
                if (has(watchers, by)) {
                    seen |= seenOn(faint[move], by, move, minute);
                }
            }
            return ~seen;
        }

        int soonestUnseen(int person, int goal) {
            weigh();
            int watchers = course.town.people.watchers[person];
            reached[0] = 1L << course.town.people.cells[person];
            for (int t = 0; t <= MINUTES; t++) {
                if (t > 0) {
                    // to go slowly is never seen with more WEIGHT than to step
                    slowFits[t] = unseenOn(watchers, SLOW, t);
                    stillFits[t] = unseenOn(watchers, STILL, t);
                    reached[t] = from(reached[t - 1], t);
                }
                if (has(reached[t], goal)) {
                    layPath(goal, t);
                    return t;
                }
            }
            return NONE;
        }

        private long from(long set, int minute) {
            return course.grid.beside(set) & slowFits[minute] | set & stillFits[minute];
        }

        private void layPath(int goal, int length) {
            // from here on reached[t] holds only CELLS from which the goal is come to in time
            reached[length] = 1L << goal;
            for (int t = length - 1; t >= 0; t--) {
                long after = reached[t + 1];
                long ahead = course.grid.beside(after & slowFits[t + 1]) | after & stillFits[t + 1];
                reached[t] &= ahead;
            }
            pathLength = length;
            path[0] = Grid.leastOf(reached[0]);
            for (int t = 1; t <= length; t++) {
                path[t] = Grid.leastOf(from(1L << path[t - 1], t) & reached[t]);
            }
        }

        int greatestUnseen(int person, int goal, int minutes) {
            Arrays.fill(best, NONE);
            best[course.town.people.cells[person]] = SURELY;
            int watchers = course.town.people.watchers[person];
            for (int t = 1; t <= minutes; t++) {
                for (int cell = 0; cell < course.grid.cells; cell++) {
                    int stayed = chance(best[cell], watchers, cell, STILL, t);
                    int came = chance(bestBeside(cell), watchers, cell, SLOW, t);
                    better[cell] = Math.max(stayed, came);
                }
                int[] old = best;
                best = better;
                better = old;
            }
            return best[goal];
        }

        /** UNSEEN grows with what it was ahead, so that the greatest ahead is all that counts. */
        private int bestBeside(int cell) {
            if (!has(course.grid.free, cell)) {
                return NONE;
            }
            int most = NONE;
            for (int look = 0; look < WAYS; look++) {
                int other = course.grid.next(cell, look);
                if (other != NONE) {
                    most = Math.max(most, best[other]);
                }
            }
            return most;
        }

        private int chance(int ahead, int watchers, int cell, int move, int minute) {
            int chance = ahead;
            for (int by = 0; by < course.town.people.count && chance > 0; by++) {
                if (has(watchers, by)) {
                    chance = lessened(chance, course.weightAs(by, cell, move, minute));
                }
            }
            return chance;
        }

        int soonestShown(int person) {
            int wanted = course.town.people.viewers[person];
            int watchers = course.town.people.watchers[person];
            if (wanted == 0) {
                return 0;
            }
            weigh();
            Arrays.fill(now, 0);
            now[0] = 1L << course.town.people.cells[person];
            for (int t = 1; t <= MINUTES; t++) {
                noteGains(wanted, t);
                Arrays.fill(then, 0);
                spread(STILL, unseenOn(watchers, STILL, t));
                spread(STEP, unseenOn(watchers, STEP, t));
                spread(SLOW, unseenOn(watchers, SLOW, t));
                spread(SIGN, unseenOn(watchers, SIGN, t));
                if (then[wanted] != 0) {
                    return t;
                }
                long[] old = now;
                now = then;
                then = old;
            }
            return NONE;
        }

        private void noteGains(int wanted, int minute) {
            Arrays.fill(gains, 0);
            for (int move = STILL; move <= SIGN; move++) {
                gaining[move] = 0;
                for (int by = 0; by < course.town.people.count; by++) {
                    if (has(wanted, by)) {
                        long seen = seenOn(full[move], by, move, minute);
                        gaining[move] |= seen;
                        noteGain(move, 1 << by, seen);
                    }
                }
            }
        }

        private void noteGain(int move, int viewer, long seen) {
            for (int cell = 0; cell < course.grid.cells; cell++) {
                if (has(seen, cell)) {
                    gains[move * MOST_CELLS + cell] |= viewer;
                }
            }
        }

        private void spread(int move, long fits) {
            for (int set = 0; set < SETS; set++) {
                if (now[set] != 0) {
                    boolean stays = move == STILL || move == SIGN;
                    long came = (stays ? now[set] : course.grid.beside(now[set])) & fits;
                    then[set] |= came & ~gaining[move];
                    spreadGains(move, set, came & gaining[move]);
                }
            }
        }

        private void spreadGains(int move, int set, long came) {
            for (int cell = 0; cell < course.grid.cells && came != 0; cell++) {
                if (has(came, cell)) {
                    then[set | gains[move * MOST_CELLS + cell]] |= 1L << cell;
                }
            }
        }

        int longestFollowed(int person, int whom, int far) {
            weigh();
            long set = 1L << course.town.people.cells[person];
            for (int t = 1; t <= MINUTES; t++) {
                slowFits[t] = unseenOn(1 << whom, SLOW, t);
                stillFits[t] = unseenOn(1 << whom, STILL, t);
                set = from(set, t) & course.grid.around(course.cellOf(whom, t), far);
                if (set == 0) {
                    return t - 1;
                }
            }
            return MINUTES;
        }
    }

    /** Who looks for what, and what is the least that does. */
    private static final class Search {
        static final int MOST_SOUGHT = 6;
        static final int SETS = 1 << MOST_SOUGHT;
        /** Bits of who has seen the other one already. */
        static final int BY_A = 1;
        static final int BY_B = 2;
        static final int BOTH = 3;

        final Course course;
        private final int[] sought = new int[MOST_SOUGHT];
        /** By the set of what has been found, where the searcher may be. */
        private long[] now = new long[SETS];
        private long[] then = new long[SETS];
        /** By WAY and CELL, what is IN SIGHT from there. */
        private final int[] gains = new int[WAYS * MOST_CELLS];
        private final long[] gaining = new long[WAYS];
        /** By who has seen the other one and the CELL of one, the CELLS of the other. */
        private long[] pairs = new long[(BOTH + 1) * MOST_CELLS];
        private long[] nextPairs = new long[(BOTH + 1) * MOST_CELLS];
        /** By the CELL of one: the CELLS in its sight, and those that have it in theirs. */
        private final long[] seenByA = new long[MOST_CELLS];
        private final long[] seeingA = new long[MOST_CELLS];
        /** By the hunter's CELL, those where it has the hider soon enough; and those if the hider goes next. */
        private final long[] had = new long[MOST_CELLS];
        private final long[] trapped = new long[MOST_CELLS];
        private final int[] holders = new int[MOST_CELLS];

        Search(Course course) {
            this.course = course;
        }

        int soonestFound(int person, long goals) {
            int count = 0;
            for (int cell = 0; cell < course.grid.cells && count < MOST_SOUGHT; cell++) {
                if (has(goals, cell)) {
                    sought[count++] = cell;
                }
            }
            if (count == 0) {
                return 0;
            }
            Arrays.fill(now, 0);
            now[0] = 1L << course.town.people.cells[person];
            for (int t = 1; t <= SHORT_SEARCH; t++) {
                if (t == 1 || course.town.cartCount > 0) {
                    noteGains(course.town.people.fars[person], count, course.blocked[t]);
                }
                Arrays.fill(then, 0);
                for (int set = 0; set < SETS; set++) {
                    spread(set);
                }
                if (then[(1 << count) - 1] != 0) {
                    return t;
                }
                long[] old = now;
                now = then;
                then = old;
            }
            return NONE;
        }

        private void noteGains(int far, int count, long blocked) {
            Arrays.fill(gains, 0);
            Arrays.fill(gaining, 0);
            for (int cell = 0; cell < course.grid.cells; cell++) {
                for (int i = 0; i < count; i++) {
                    int off = course.grid.off(cell, sought[i]);
                    if (off <= far && (course.grid.line(cell, sought[i], off) & blocked) == 0) {
                        noteGain(cell, i);
                    }
                }
            }
        }

        private void noteGain(int cell, int i) {
            for (int look = 0; look < WAYS; look++) {
                if (has(course.grid.cone(cell, look), sought[i])) {
                    gains[look * MOST_CELLS + cell] |= 1 << i;
                    gaining[look] |= 1L << cell;
                }
            }
        }

        private void spread(int set) {
            if (now[set] == 0) {
                return;
            }
            for (int look = 0; look < WAYS; look++) {
                long came = now[set] | course.grid.stepped(now[set], look);
                then[set] |= came & ~gaining[look];
                long gained = came & gaining[look];
                for (int cell = 0; cell < course.grid.cells && gained != 0; cell++) {
                    if (has(gained, cell)) {
                        then[set | gains[look * MOST_CELLS + cell]] |= 1L << cell;
                    }
                }
            }
        }

        int cellsSwept(int person, int minutes) {
            int far = course.town.people.fars[person];
            int cell = course.town.people.cells[person];
            long seen = 0;
            for (int t = 1; t <= minutes; t++) {
                int most = NONE;
                long mostSeen = 0;
                int mostCell = cell;
                // turns stand ahead of steps
                for (int choice = 0; choice < 2 * WAYS; choice++) {
                    int look = choice % WAYS;
                    int goal = choice < WAYS ? cell : course.grid.nextFree(cell, look);
                    long view = course.grid.view(goal, look, far, course.blocked[t]) & ~seen;
                    // a step that can't be taken shows no more than the turn told already
                    if (Long.bitCount(view) > most) {
                        most = Long.bitCount(view);
                        mostSeen = view;
                        mostCell = goal;
                    }
                }
                seen |= mostSeen;
                cell = mostCell;
            }
            return Long.bitCount(seen);
        }

        long whereabouts(int who, int cell, int minutes) {
            boolean showsStill = course.town.seen[SEEN_SELF] > 0;
            long set = 1L << cell;
            for (int t = 1; t <= minutes; t++) {
                long unseen = ~course.viewOf(who, t);
                long stayed = showsStill && course.moved(who, t) ? set & unseen : set;
                set = stayed | course.grid.beside(set) & unseen;
            }
            return set;
        }

        int soonestMeeting(int a, int b) {
            People people = course.town.people;
            Arrays.fill(pairs, 0);
            pairs[people.cells[a]] = 1L << people.cells[b];
            for (int t = 1; t <= SHORT_SEARCH; t++) {
                if (t == 1 || course.town.cartCount > 0) {
                    lookAround(people.fars[a], people.fars[b], course.blocked[t]);
                }
                Arrays.fill(nextPairs, 0);
                for (int known = 0; known < BOTH; known++) {
                    for (int cell = 0; cell < course.grid.cells; cell++) {
                        meetAt(known, cell);
                    }
                }
                for (int cell = 0; cell < course.grid.cells; cell++) {
                    if (nextPairs[BOTH * MOST_CELLS + cell] != 0) {
                        return t;
                    }
                }
                long[] old = pairs;
                pairs = nextPairs;
                nextPairs = old;
            }
            return NONE;
        }

        private void lookAround(int farA, int farB, long blocked) {
            Arrays.fill(seenByA, 0);
            Arrays.fill(seeingA, 0);
            for (int from = 0; from < course.grid.cells; from++) {
                for (int to = 0; to < course.grid.cells; to++) {
                    int off = course.grid.off(from, to);
                    if (to != from && (course.grid.line(from, to, off) & blocked) == 0) {
                        seenByA[from] |= off <= farA ? 1L << to : 0;
                        seeingA[to] |= off <= farB ? 1L << from : 0;
                    }
                }
            }
        }

        /** All that can be behind a minute with one on this CELL: each stays or steps. */
        private void meetAt(int known, int cell) {
            long stayed = pairs[known * MOST_CELLS + cell];
            long came = 0;
            if (has(course.grid.free, cell)) {
                for (int look = 0; look < WAYS; look++) {
                    int from = course.grid.next(cell, look);
                    came |= from == NONE ? 0 : pairs[known * MOST_CELLS + from];
                }
            }
            long seen = seenByA[cell];
            long seeing = seeingA[cell];
            long otherCame = course.grid.beside(stayed);
            long bothCame = course.grid.beside(came);
            notePairs(known, cell, stayed | otherCame & ~seen | came & ~seeing | bothCame & ~seen & ~seeing);
            notePairs(known | BY_A, cell, otherCame & seen | bothCame & seen & ~seeing);
            notePairs(known | BY_B, cell, came & seeing | bothCame & ~seen & seeing);
            notePairs(BOTH, cell, bothCame & seen & seeing);
        }

        private void notePairs(int known, int cell, long others) {
            nextPairs[known * MOST_CELLS + cell] |= others;
        }

        int soonestHad(int hunter, int hider) {
            for (int cell = 0; cell < course.grid.cells; cell++) {
                had[cell] = 1L << cell;
            }
            int minutes = 0;
            boolean more = true;
            // each minute but the last one adds a pair of CELLS at least
            for (int i = 0; i < MOST_CELLS * MOST_CELLS && more && !has(had[hunter], hider); i++) {
                more = widen();
                minutes++;
            }
            return has(had[hunter], hider) ? minutes : NONE;
        }

        /** From where the hider is had in so many minutes to where it is in one more; whether there is more. */
        private boolean widen() {
            Grid grid = course.grid;
            for (int cell = 0; cell < grid.cells; cell++) {
                long escapes = grid.free & ~had[cell];
                trapped[cell] = grid.free & ~escapes & ~grid.beside(escapes) | 1L << cell;
            }
            boolean more = false;
            for (int cell = 0; cell < grid.cells; cell++) {
                long set = had[cell] | trapped[cell];
                for (int look = 0; look < WAYS; look++) {
                    set |= trapped[grid.nextFree(cell, look)];
                }
                if (has(grid.free, cell) && set != had[cell]) {
                    more = true;
                }
                had[cell] = set;
            }
            return more;
        }

        int leastLamps(int n) {
            Town town = course.town;
            for (int person = 0; person < town.people.count; person++) {
                holders[person] = 0;
                for (int lamp = 0; lamp < town.lampCount; lamp++) {
                    if (has(course.viewOf(person, 0), town.lampCells[lamp])) {
                        holders[person] |= 1 << lamp;
                    }
                }
            }
            return leastSet(town.people.count, town.lampCount, n);
        }

        int leastGallery(int n) {
            People people = course.town.people;
            int count = 0;
            for (int cell = 0; cell < course.grid.cells; cell++) {
                if (has(course.grid.free, cell)) {
                    holders[count] = 0;
                    for (int person = 0; person < people.count; person++) {
                        if (people.cells[person] == cell || has(course.viewOf(person, 0), cell)) {
                            holders[count] |= 1 << person;
                        }
                    }
                    count++;
                }
            }
            return leastSet(count, people.count, n);
        }

        /** The least set that has n members at least of each of the first holders. */
        private int leastSet(int count, int members, int n) {
            int least = NONE;
            int fewest = members + 1;
            for (int set = 0; set < 1 << members; set++) {
                int size = Integer.bitCount(set);
                if (size < fewest && isEnough(set, count, n)) {
                    least = set;
                    fewest = size;
                }
            }
            return least;
        }

        private boolean isEnough(int set, int count, int n) {
            for (int i = 0; i < count; i++) {
                if (Integer.bitCount(set & holders[i]) < n) {
                    return false;
                }
            }
            return true;
        }
    }

    /** A DAY by draws. */
    private static final class Day {
        /** How many PEOPLE there were; NONE ahead of any DAY. */
        int people = NONE;
        int times = 0;
        int hidersSeen = 0;
        final int[] seen = new int[MOST_PEOPLE];
        private int draws = 0;

        void pass(Course course, int seed) {
            people = course.town.people.count;
            times = 0;
            draws = seed;
            Arrays.fill(seen, 0);
            for (int t = 1; t <= MINUTES; t++) {
                for (int who = 0; who < people; who++) {
                    for (int whom = 0; whom < people; whom++) {
                        if (whom != who && isSeen(course.weightOf(who, whom, t))) {
                            seen[who] |= 1 << whom;
                            times++;
                        }
                    }
                }
            }
            hidersSeen = 0;
            for (int person = 0; person < people; person++) {
                hidersSeen += isCaught(person, course.town.people.watchers[person]) ? 1 : 0;
            }
        }

        private boolean isSeen(int weight) {
            if (weight <= 0) {
                return false;
            }
            draws = (draws * 2677 + 9029) % 65536;
            return draws / 8 % 16 < weight;
        }

        private boolean isCaught(int person, int watchers) {
            for (int by = 0; by < people; by++) {
                if (has(watchers, by) && has(seen[by], person)) {
                    return true;
                }
            }
            return false;
        }
    }
}
