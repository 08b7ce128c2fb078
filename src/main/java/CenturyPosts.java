import java.util.Arrays;

/** Sleepers of a hundred years at their crossroads; ../shared/DOC.md tells what each call answers. */
public final class CenturyPosts {
    public static final int UNKNOWN = -1, OUTSIDE = -2, STATE = -3, FULL = -4, NONE = -9;
    public static final long LOST = Long.MIN_VALUE;

    private static final int NULL = 1, CAST = 2, INDEX = 3, SIZE = 4;
    private static final int DECADES = 40, LAST_DECADE = 39, NEVER = 40;
    private static final int MOST_POSTS = 4, MOST_PERSONS = 6, MOST_SETS = 64;
    private static final int MOST_WILLS = 6, MOST_READINGS = 8;
    private static final int KINDS = 3, LAW_COUNT = 3, OF_PERSON_COUNT = 7, MANY_COUNT = 5;
    private static final int HEAVY = 1, ENCHANTED = 2;
    private static final int LAW_OLDEST = 1, LAW_NEAREST = 2;
    private static final int SHEET_COUNT = 4, LANES = 3, MOST_CELLS = 60;
    private static final int BYTES = 0, SHORTS = 1;
    private static final int UNBORN = 0, AWAKE = 1, ASLEEP = 2, DEAD = 3;
    /** Above all EMPTY DECADES that there can be (4 POSTS, 40 DECADES). */
    private static final int NO_LIMIT = 1000;

    private final Sheets sheets;
    private final Land country;
    private final Orders orders;
    private final Readings seen;
    private final Course course;
    /** The orders and the course of a question "what if": used again by every call that asks one. */
    private final Orders otherwise;
    private final Course trial;
    /** For each set of willing PERSONS, when all others REFUSE: the first DECADE with an EMPTY POST. */
    private final int[] falls;
    private boolean courseFresh, fallsFresh, helpFresh;
    private int helpingWill, helpedMissed;
    private int latestFault, traced;

    public CenturyPosts() {
        Land none = new Land();
        sheets = new Sheets();
        country = none;
        orders = new Orders();
        seen = new Readings();
        course = new Course(none);
        otherwise = new Orders();
        trial = new Course(none);
        falls = new int[MOST_SETS];
        courseFresh = false;
        fallsFresh = false;
        helpFresh = false;
        helpingWill = NONE;
        helpedMissed = 0;
        latestFault = 0;
        traced = 0;
    }

    // ---- 1 the land

    public int land(int sheet, int lane, int i, int n) {
        latestFault = 0;
        if (!isSheet(sheet)) return UNKNOWN;
        if (!isLane(lane)) return OUTSIDE;
        int broken = faultOfRow(sheet, lane);
        if (broken == 0 && n < 0) broken = SIZE;
        if (broken == 0 && !sheets.spans(sheet, i, n)) broken = INDEX;
        if (broken != 0) return faulty(broken);
        int wrong = Land.firstFault(sheets, sheet, i, n);
        if (wrong != NONE) return -100 - wrong;
        country.settle(sheets, sheet, i, n);
        orders.clear();
        seen.count = 0;
        unsettle();
        return country.persons;
    }

    public int ofPerson(int p, int what) {
        if (!isPerson(p)) return UNKNOWN;
        if (what < 0 || what >= OF_PERSON_COUNT) return OUTSIDE;
        switch (what) {
            case 0: return country.kinds[p];
            case 1: return country.homes[p];
            case 2: return country.borns[p];
            case 3: return country.lives[p];
            case 4: return country.naps[p];
            case 5: return country.sleepOf(p);
            default: return orders.refusing >> p & 1;
        }
    }

    public int law(int v) {
        if (v < 0 || v >= LAW_COUNT) return OUTSIDE;
        if (!isLand()) return STATE;
        int was = orders.rule;
        orders.rule = v;
        unsettle();
        return was;
    }

    public int refuse(int p, boolean is) {
        if (!isPerson(p)) return UNKNOWN;
        int bit = 1 << p;
        boolean was = (orders.refusing & bit) != 0;
        if (was == is) return 0;
        orders.refusing ^= bit;
        unsettle();
        return 1;
    }

    public int will(int post, int p, int decade) {
        if (!isPost(post) || !isPerson(p)) return UNKNOWN;
        if (!isDecade(decade)) return OUTSIDE;
        if (orders.willCount >= MOST_WILLS) return FULL;
        orders.addWill(post, p, decade);
        unsettle();
        return orders.willCount - 1;
    }

    public int burn(int k) {
        if (k < 0 || k > orders.willCount) return OUTSIDE;
        orders.willCount -= k;
        unsettle();
        return orders.willCount;
    }

    public int giveUp(int post, int decade) {
        if (!isPost(post)) return UNKNOWN;
        if (decade < 0 || decade > NEVER) return OUTSIDE;
        int was = orders.givenUp[post];
        orders.givenUp[post] = decade;
        unsettle();
        return was;
    }

    // ---- 2 decades

    public int guard(int post, int decade) {
        if (!isPost(post)) return UNKNOWN;
        if (!isDecade(decade)) return OUTSIDE;
        return asItGoes().guardAt(post, decade);
    }

    public int how(int p, int decade) {
        if (!isPerson(p)) return UNKNOWN;
        if (!isDecade(decade)) return OUTSIDE;
        return asItGoes().stateAt(p, decade);
    }

    public int age(int p, int decade) {
        if (!isPerson(p)) return UNKNOWN;
        if (!isDecade(decade)) return OUTSIDE;
        return asItGoes().agedAt(p, decade);
    }

    public int empty(int decade) {
        if (!isDecade(decade)) return OUTSIDE;
        if (!isLand()) return STATE;
        return asItGoes().gaps[decade];
    }

    public int empties(int decade) {
        if (!isDecade(decade)) return OUTSIDE;
        if (!isLand()) return STATE;
        return asItGoes().missedBy(decade);
    }

    public int awake(int decade) {
        if (!isDecade(decade)) return OUTSIDE;
        if (!isLand()) return STATE;
        Course now = asItGoes();
        int set = 0;
        for (int p = 0; p < country.persons; p++) {
            if (now.stateAt(p, decade) == AWAKE) set |= 1 << p;
        }
        return set;
    }

    public int slept(int p, int decade) {
        if (!isPerson(p)) return UNKNOWN;
        if (!isDecade(decade)) return OUTSIDE;
        Course now = asItGoes();
        int total = 0;
        for (int d = 0; d <= decade; d++) {
            if (now.stateAt(p, d) == ASLEEP) total++;
        }
        return total;
    }

    // ---- 3 the fewest, wills

    public int fewest(int decade) {
        if (!isDecade(decade)) return OUTSIDE;
        if (!isLand()) return STATE;
        findFalls();
        int best = NONE;
        int size = MOST_PERSONS + 1;
        for (int willing = 0; willing < country.setCount(); willing++) {
            if (falls[willing] > decade && Integer.bitCount(willing) < size) {
                best = willing;
                size = Integer.bitCount(willing);
            }
        }
        return best;
    }

    public int help(int what) {
        if (what < 0 || what > 1) return OUTSIDE;
        if (!isLand()) return STATE;
        findHelp();
        return what == 0 ? helpingWill : helpedMissed;
    }

    public int wills(int sheet, int lane, int i, int n) {
        latestFault = 0;
        if (!isSheet(sheet)) return UNKNOWN;
        if (!isLane(lane) || n < 0 || n > MOST_WILLS) return OUTSIDE;
        if (!isLand()) return STATE;
        int broken = faultOfRow(sheet, lane);
        if (broken == 0 && !sheets.spans(sheet, i, 3 * n)) broken = INDEX;
        if (broken != 0) return faulty(broken);
        if (!takeToldWills(sheet, i, n)) return OUTSIDE;
        trial.run(otherwise, LAST_DECADE, NO_LIMIT);
        return trial.missed;
    }

    // ---- 4 who lay where

    public int reading(int post, int decade, int p) {
        if (!isPost(post) || !isPerson(p) && p != NONE) return UNKNOWN;
        if (!isDecade(decade)) return OUTSIDE;
        if (seen.count >= MOST_READINGS) return FULL;
        seen.addReading(post, decade, p);
        return seen.count - 1;
    }

    public int back(int k) {
        if (k < 0 || k > seen.count) return OUTSIDE;
        seen.count -= k;
        return seen.count;
    }

    public int laws() {
        if (!isLand()) return STATE;
        int set = 0;
        for (int v = 0; v < LAW_COUNT; v++) {
            otherwise.takeOver(orders);
            otherwise.rule = v;
            if (allAreSo()) set |= 1 << v;
        }
        return set;
    }

    public int stubborn() {
        if (!isLand()) return STATE;
        int set = 0;
        for (int p = 0; p < country.persons; p++) {
            otherwise.takeOver(orders);
            otherwise.refusing |= 1 << p;
            if (allAreSo()) set |= 1 << p;
        }
        return set;
    }

    public int named(int post, int decade) {
        if (!isPost(post)) return UNKNOWN;
        if (!isDecade(decade)) return OUTSIDE;
        int set = 0;
        for (int p = 0; p < country.persons; p++) {
            otherwise.takeOver(orders);
            otherwise.addWill(post, p, decade);
            if (allAreSo()) set |= 1 << p;
        }
        return set;
    }

    public int opened() {
        if (!isLand()) return STATE;
        int set = 0;
        for (int post = 0; post < country.posts; post++) {
            otherwise.takeOver(orders);
            otherwise.givenUp[post] = NEVER;
            if (allAreSo()) set |= 1 << post;
        }
        return set;
    }

    // ---- 5 odds, sheets, parts

    public long odds(int decade, int which) {
        if (!isDecade(decade) || which < 0 || which > 1) return LOST;
        if (!isLand()) return LOST;
        findFalls();
        int lower = country.setCount();
        int upper = 0;
        for (int willing = 0; willing < country.setCount(); willing++) {
            if (falls[willing] > decade) upper++;
        }
        // The lower number is a power of 2: no other divisor can be common.
        while (lower > 1 && upper % 2 == 0) {
            upper /= 2;
            lower /= 2;
        }
        return which == 0 ? upper : lower;
    }

    public int sheet(int k, int lane, int n) {
        latestFault = 0;
        if (!isSheet(k)) return UNKNOWN;
        if (!isLane(lane) || n > MOST_CELLS) return OUTSIDE;
        if (n < 0) return faulty(SIZE);
        sheets.lay(k, lane, n);
        return 1;
    }

    public int lose(int k) {
        if (!isSheet(k)) return UNKNOWN;
        if (!sheets.has(k)) return 0;
        sheets.drop(k);
        return 1;
    }

    public int put(int k, int i, int v) {
        latestFault = 0;
        if (!isSheet(k)) return UNKNOWN;
        if (!sheets.has(k)) return faulty(NULL);
        if (!sheets.spans(k, i, 1)) return faulty(INDEX);
        sheets.write(k, i, v);
        return 1;
    }

    public long cell(int k, int i, int lane) {
        latestFault = 0;
        if (!isSheet(k) || !isLane(lane)) return LOST;
        int broken = faultOfRow(k, lane);
        if (broken == 0 && !sheets.spans(k, i, 1)) broken = INDEX;
        if (broken == 0) return sheets.read(k, i);
        latestFault = broken;
        return LOST;
    }

    public int copy(int k, int i, int other, int j, int n) {
        latestFault = 0;
        if (!isSheet(k) || !isSheet(other)) return UNKNOWN;
        if (!sheets.has(k) || !sheets.has(other)) return faulty(NULL);
        if (sheets.lanes[k] != sheets.lanes[other]) return faulty(CAST);
        if (!sheets.spans(k, i, n) || !sheets.spans(other, j, n)) return faulty(INDEX);
        sheets.move(k, i, other, j, n);
        return n;
    }

    public int tell(int p) {
        if (!isPerson(p)) return UNKNOWN;
        int nap = country.naps[p];
        switch (country.kinds[p]) {
            case ENCHANTED: return tellEnchanted(nap);
            case HEAVY: return tellHeavy(nap);
            default: return tellDreamer(nap);
        }
    }

    public int rouse(int p) {
        if (!isPerson(p)) return UNKNOWN;
        boolean own = country.kinds[p] == ENCHANTED;
        leave(own ? 5 : 4);
        return own ? 70 : p;
    }

    public int as(int p, int kind) {
        latestFault = 0;
        if (!isPerson(p)) return UNKNOWN;
        if (kind < 0 || kind >= KINDS) return OUTSIDE;
        // Each kind is one of all the kinds of lower numbers, too.
        return country.kinds[p] >= kind ? 1 : faulty(CAST);
    }

    public int trace() {
        return traced;
    }

    public int fault() {
        return latestFault;
    }

    public int many(int what) {
        if (what < 0 || what >= MANY_COUNT) return OUTSIDE;
        switch (what) {
            case 0: return country.persons;
            case 1: return country.posts;
            case 2: return orders.willCount;
            case 3: return seen.count;
            default: return orders.rule;
        }
    }

    // ---- what the calls share

    private boolean isLand() {
        return country.posts > 0;
    }

    private boolean isPost(int post) {
        return post >= 0 && post < country.posts;
    }

    private boolean isPerson(int p) {
        return p >= 0 && p < country.persons;
    }

    private static boolean isDecade(int decade) {
        return decade >= 0 && decade < DECADES;
    }

    private static boolean isSheet(int k) {
        return k >= 0 && k < SHEET_COUNT;
    }

    private static boolean isLane(int lane) {
        return lane >= 0 && lane < LANES;
    }

    /** CAST or NULL of a SHEET that is taken as a row of a LANE; 0 if it can be. */
    private int faultOfRow(int k, int lane) {
        if (!sheets.has(k)) return NULL;
        return sheets.lanes[k] == lane ? 0 : CAST;
    }

    private int faulty(int which) {
        latestFault = which;
        return -10 - which;
    }

    /** The orders (or the LAND) have changed: what was found by the old ones is worth nothing. */
    private void unsettle() {
        courseFresh = false;
        fallsFresh = false;
        helpFresh = false;
    }

    private Course asItGoes() {
        if (!courseFresh) {
            course.run(orders, LAST_DECADE, NO_LIMIT);
            courseFresh = true;
        }
        return course;
    }

    private void findFalls() {
        if (fallsFresh) return;
        otherwise.takeOver(orders);
        int sets = country.setCount();
        for (int willing = 0; willing < sets; willing++) {
            otherwise.refusing = sets - 1 - willing;
            trial.run(otherwise, LAST_DECADE, 1);
            falls[willing] = trial.missed > 0 ? trial.ran - 1 : DECADES;
        }
        fallsFresh = true;
    }

    private void findHelp() {
        if (helpFresh) return;
        Course now = asItGoes();
        helpingWill = NONE;
        helpedMissed = now.missed;
        for (int post = 0; post < country.posts; post++) {
            for (int p = 0; p < country.persons; p++) {
                for (int decade = 0; decade < DECADES; decade++) {
                    if (now.wouldTurn(post, p, decade)) tryWill(post, p, decade);
                }
            }
        }
        helpFresh = true;
    }

    private void tryWill(int post, int p, int decade) {
        otherwise.takeOver(orders);
        otherwise.addWill(post, p, decade);
        trial.run(otherwise, LAST_DECADE, helpedMissed);
        if (trial.missed < helpedMissed) {
            helpedMissed = trial.missed;
            helpingWill = 1000 * post + 100 * p + decade;
        }
    }

    /** Makes the WILLS told those of the question "what if"; false: a cell is not as told. */
    private boolean takeToldWills(int sheet, int i, int n) {
        otherwise.takeOver(orders);
        otherwise.willCount = 0;
        for (int row = 0; row < n; row++) {
            int at = i + 3 * row;
            int post = sheets.read(sheet, at);
            int p = sheets.read(sheet, at + 1);
            int decade = sheets.read(sheet, at + 2);
            if (!isPost(post) || !isPerson(p) || !isDecade(decade)) return false;
            otherwise.addWill(post, p, decade);
        }
        return true;
    }

    /** Whether all READINGS are so by the orders of the question "what if". */
    private boolean allAreSo() {
        trial.run(otherwise, seen.lastDecade(), NO_LIMIT);
        return seen.areSo(trial);
    }

    private void leave(int number) {
        traced = 31 * traced + number;
    }

    private int tellDreamer(int nap) {
        leave(1);
        return nap;
    }

    private int tellHeavy(int nap) {
        leave(2);
        return tellDreamer(nap) + 100;
    }

    private int tellEnchanted(int nap) {
        leave(3);
        int heavy = tellHeavy(nap);
        return heavy + tellDreamer(nap);
    }

    /** The SHEETS: each has room for the longest row, so that a new row makes no object. */
    private static final class Sheets {
        final int[] lanes = new int[SHEET_COUNT];
        private final int[] lengths = new int[SHEET_COUNT];
        private final int[] cells = new int[SHEET_COUNT * MOST_CELLS];

        Sheets() {
            Arrays.fill(lanes, NONE);
        }

        boolean has(int k) {
            return lanes[k] != NONE;
        }

        void lay(int k, int lane, int n) {
            lanes[k] = lane;
            lengths[k] = n;
            for (int i = 0; i < n; i++) cells[k * MOST_CELLS + i] = 0;
        }

        void drop(int k) {
            lanes[k] = NONE;
            lengths[k] = 0;
        }

        /** Whether there are n cells from i on; written so that no sum can wrap. */
        boolean spans(int k, int i, int n) {
            return i >= 0 && i <= lengths[k] && n >= 0 && n <= lengths[k] - i;
        }

        int read(int k, int i) {
            return cells[k * MOST_CELLS + i];
        }

        void write(int k, int i, int v) {
            int cut = v;
            if (lanes[k] == BYTES) cut = (byte) v;
            if (lanes[k] == SHORTS) cut = (short) v;
            cells[k * MOST_CELLS + i] = cut;
        }

        void move(int k, int i, int other, int j, int n) {
            System.arraycopy(cells, k * MOST_CELLS + i, cells, other * MOST_CELLS + j, n);
        }
    }

    /** POSTS and PERSONS as a TEXT tells them; no POSTS: there is no LAND. */
    private static final class Land {
        private static final int[] LETTERS = {100, 104, 101};
        /** Codes ahead of the PERSONS, and those of a PERSON. */
        private static final int HEAD = 2, EACH = 6;
        private static final int SHORTEST = HEAD + 2 * EACH, LONGEST = HEAD + MOST_PERSONS * EACH;

        int posts = 0;
        int persons = 0;
        final int[] kinds = new int[MOST_PERSONS];
        final int[] homes = new int[MOST_PERSONS];
        final int[] borns = new int[MOST_PERSONS];
        final int[] lives = new int[MOST_PERSONS];
        final int[] naps = new int[MOST_PERSONS];

        /** FIRST FAULT of n cells from i on; NONE: they are a TEXT. */
        static int firstFault(Sheets sheets, int k, int i, int n) {
            int posts = 0;
            for (int place = 0; place < n; place++) {
                int code = sheets.read(k, i + place);
                if (!goesOn(place, code, posts)) return place;
                if (place == 1) posts = code - '0';
            }
            boolean whole = n >= SHORTEST && (n - HEAD) % EACH == 0;
            return whole ? NONE : n;
        }

        private static boolean goesOn(int place, int code, int posts) {
            if (place == 0) return code == 'c';
            if (place == 1) return code >= '1' && code <= '4';
            if (place >= LONGEST) return false;
            switch ((place - HEAD) % EACH) {
                case 0: return code == ';';
                case 1: return kindOf(code) != NONE;
                case 2: return code >= '0' && code < '0' + posts;
                case 3: return code >= '0' && code <= '9';
                default: return code >= '1' && code <= '9';
            }
        }

        private static int kindOf(int code) {
            for (int kind = 0; kind < KINDS; kind++) {
                if (LETTERS[kind] == code) return kind;
            }
            return NONE;
        }

        /** Takes a TEXT that has no FIRST FAULT. */
        void settle(Sheets sheets, int k, int i, int n) {
            posts = sheets.read(k, i + 1) - '0';
            persons = (n - HEAD) / EACH;
            for (int p = 0; p < persons; p++) {
                int at = i + HEAD + p * EACH;
                kinds[p] = kindOf(sheets.read(k, at + 1));
                homes[p] = sheets.read(k, at + 2) - '0';
                borns[p] = sheets.read(k, at + 3) - '0';
                lives[p] = sheets.read(k, at + 4) - '0';
                naps[p] = sheets.read(k, at + 5) - '0';
            }
        }

        int sleepOf(int p) {
            switch (kinds[p]) {
                case ENCHANTED: return 2 * (naps[p] + 2);
                case HEAVY: return naps[p] + 2;
                default: return naps[p];
            }
        }

        /** How many sets of PERSONS there are. */
        int setCount() {
            return 1 << persons;
        }
    }

    /** What the course of the DECADES hangs on, beside the LAND: LAW, who REFUSES, WILLS, GIVEN UP. */
    private static final class Orders {
        int rule = 0;
        int refusing = 0;
        int willCount = 0;
        final int[] givenUp = new int[MOST_POSTS];
        /** Room for one WILL more: questions "what if" ask for it also where there are 6. */
        private final int[] willPosts = new int[MOST_WILLS + 1];
        private final int[] willPersons = new int[MOST_WILLS + 1];
        private final int[] willDecades = new int[MOST_WILLS + 1];

        Orders() {
            Arrays.fill(givenUp, NEVER);
        }

        void clear() {
            rule = 0;
            refusing = 0;
            willCount = 0;
            Arrays.fill(givenUp, NEVER);
        }

        void takeOver(Orders other) {
            rule = other.rule;
            refusing = other.refusing;
            willCount = other.willCount;
            System.arraycopy(other.givenUp, 0, givenUp, 0, MOST_POSTS);
            System.arraycopy(other.willPosts, 0, willPosts, 0, MOST_WILLS);
            System.arraycopy(other.willPersons, 0, willPersons, 0, MOST_WILLS);
            System.arraycopy(other.willDecades, 0, willDecades, 0, MOST_WILLS);
        }

        void addWill(int post, int p, int decade) {
            if (willCount > MOST_WILLS) return;
            willPosts[willCount] = post;
            willPersons[willCount] = p;
            willDecades[willCount] = decade;
            willCount++;
        }

        /** Whom of a set the first WILL of a POST and DECADE that names one of it names; NONE. */
        int willedOf(int set, int post, int decade) {
            for (int w = 0; w < willCount; w++) {
                boolean meant = willPosts[w] == post && willDecades[w] == decade;
                if (meant && (set >> willPersons[w] & 1) != 0) return willPersons[w];
            }
            return NONE;
        }
    }

    private static final class Readings {
        int count = 0;
        private final int[] posts = new int[MOST_READINGS];
        private final int[] decades = new int[MOST_READINGS];
        private final int[] sleepers = new int[MOST_READINGS];

        void addReading(int post, int decade, int p) {
            posts[count] = post;
            decades[count] = decade;
            sleepers[count] = p;
            count++;
        }

        /** How far a course must be run for all READINGS; -1: there are none. */
        int lastDecade() {
            int last = -1;
            for (int r = 0; r < count; r++) last = Math.max(last, decades[r]);
            return last;
        }

        boolean areSo(Course course) {
            for (int r = 0; r < count; r++) {
                if (course.guardAt(posts[r], decades[r]) != sleepers[r]) return false;
            }
            return true;
        }
    }

    /** How the DECADES go by some orders. */
    private static final class Course {
        /** EMPTY POSTS of each DECADE, as sets. */
        final int[] gaps = new int[DECADES];
        /** EMPTY DECADES of those that were run. */
        int missed = 0;
        /** How many DECADES were run. */
        int ran = 0;

        private final Land land;
        private final int[] guards = new int[DECADES * MOST_POSTS];
        /** Among whom the LAW chose for a POST in a DECADE, as sets; 0 where it had nothing to choose. */
        private final int[] choices = new int[DECADES * MOST_POSTS];
        private final int[] states = new int[DECADES * MOST_PERSONS];
        private final int[] aged = new int[DECADES * MOST_PERSONS];

        private final int[] sleepers = new int[MOST_POSTS];
        private final int[] ends = new int[MOST_POSTS];
        private final int[] years = new int[MOST_PERSONS];
        /** Sets of PERSONS as they are now; ready: who may lie down in this DECADE. */
        private int up, down, ready;

        Course(Land land) {
            this.land = land;
            up = 0;
            down = 0;
            ready = 0;
        }

        int guardAt(int post, int decade) {
            return guards[decade * MOST_POSTS + post];
        }

        int stateAt(int p, int decade) {
            return states[decade * MOST_PERSONS + p];
        }

        int agedAt(int p, int decade) {
            return aged[decade * MOST_PERSONS + p];
        }

        int missedBy(int decade) {
            int total = 0;
            for (int d = 0; d <= decade; d++) total += Integer.bitCount(gaps[d]);
            return total;
        }

        /** Whether one WILL more, the last one, would make another lie down there then. */
        boolean wouldTurn(int post, int p, int decade) {
            int at = decade * MOST_POSTS + post;
            return (choices[at] >> p & 1) != 0 && guards[at] != p;
        }

        /** Up to the DECADE last, or until so many EMPTY DECADES as the limit tells. */
        void run(Orders orders, int last, int limit) {
            up = 0;
            down = 0;
            missed = 0;
            Arrays.fill(sleepers, NONE);
            Arrays.fill(years, 0);
            for (ran = 0; ran <= last && ran < DECADES && missed < limit; ran++) {
                wakeAndBear(ran, orders.refusing);
                fillPosts(ran, orders);
                noteAndGrowOld(ran);
            }
        }

        private void wakeAndBear(int decade, int refusing) {
            int waked = 0;
            for (int post = 0; post < land.posts; post++) {
                if (sleepers[post] != NONE && ends[post] <= decade) {
                    waked |= 1 << sleepers[post];
                    sleepers[post] = NONE;
                }
            }
            for (int p = 0; p < land.persons; p++) {
                if (land.borns[p] == decade) up |= 1 << p;
            }
            ready = up & ~refusing;
            up |= waked;
            down &= ~waked;
        }

        private void fillPosts(int decade, Orders orders) {
            gaps[decade] = 0;
            for (int post = 0; post < land.posts; post++) {
                choices[decade * MOST_POSTS + post] = 0;
                if (sleepers[post] == NONE && decade < orders.givenUp[post]) {
                    int p = chosenOf(decade, post, orders);
                    if (p == NONE) gaps[decade] |= 1 << post;
                    else layDown(decade, post, p);
                }
                guards[decade * MOST_POSTS + post] = sleepers[post];
            }
            missed += Integer.bitCount(gaps[decade]);
        }

        private int chosenOf(int decade, int post, Orders orders) {
            int willed = orders.willedOf(ready, post, decade);
            if (willed != NONE) return willed;
            choices[decade * MOST_POSTS + post] = ready;
            return lawfulOf(orders.rule, post);
        }

        private void layDown(int decade, int post, int p) {
            sleepers[post] = p;
            ends[post] = decade + land.sleepOf(p);
            int bit = 1 << p;
            ready &= ~bit;
            up &= ~bit;
            down |= bit;
        }

        /** Whom the LAW takes of those who are ready; NONE: nobody is. */
        private int lawfulOf(int rule, int post) {
            int best = NONE;
            int bestWorth = 0;
            for (int p = 0; p < land.persons; p++) {
                if ((ready >> p & 1) == 0) continue;
                int worth = 0;
                if (rule == LAW_OLDEST) worth = years[p];
                if (rule == LAW_NEAREST) worth = -Math.abs(land.homes[p] - post);
                if (best == NONE || worth > bestWorth) {
                    best = p;
                    bestWorth = worth;
                }
            }
            return best;
        }

        private void noteAndGrowOld(int decade) {
            for (int p = 0; p < land.persons; p++) {
                int at = decade * MOST_PERSONS + p;
                states[at] = stateNow(p, decade);
                if (states[at] == AWAKE) {
                    years[p]++;
                    if (years[p] >= land.lives[p]) up &= ~(1 << p);
                }
                aged[at] = years[p];
            }
        }

        private int stateNow(int p, int decade) {
            if ((up >> p & 1) != 0) return AWAKE;
            if ((down >> p & 1) != 0) return ASLEEP;
            return decade < land.borns[p] ? UNBORN : DEAD;
        }
    }
}
