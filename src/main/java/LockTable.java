import java.util.Arrays;

/**
 * Locks on tables and on ranges of their keys, for owners of work. The document tells the rules;
 * this class keeps the owners and their time, and leaves the locks and the requests to the two
 * classes Locks and Requests inside it.
 */
public final class LockTable {
    public static final int NONE = -1;

    private static final int OWNERS = 8;
    private static final int TABLES = 16;
    private static final int MOST_RANGES = 8;
    private static final int MOST_ROWS = 256;
    private static final int MOST_TICKS = 1000;

    private static final int IDLE = 0;
    private static final int WORKING = 1;
    private static final int WAITING = 2;
    private static final int DOOMED = 3;
    private static final int PREPARED = 4;

    private static final int IS_GRANTED = 0;
    private static final int WAITS = 1;
    private static final int IS_VICTIM = 2;
    private static final int IS_REFUSED = 3;

    private static final int WHAT_TABLE = 0;
    private static final int WHAT_RANGE = 1;
    private static final int WHAT_MODE = 2;
    private static final int WHAT_INNER = 3;
    private static final int WHAT_ESCALATION = 4;
    private static final int WHAT_TICKS = 5;

    private final int[] states;
    private final int[] serials;
    private final Locks locks;
    private final Requests requests;
    /** For each owner those it is behind: a row for the search of rings, used again each time. */
    private final int[] reached;
    private final int[] grants;
    private int grantCount;
    /** Whose own call this is: granted() leaves that owner out. */
    private int caller;
    private int lastSerial;
    private int timeLimit;
    private int now;

    public LockTable() {
        states = new int[OWNERS];
        serials = new int[OWNERS];
        Arrays.fill(serials, NONE);
        locks = new Locks();
        requests = new Requests();
        reached = new int[OWNERS];
        grants = new int[OWNERS];
        caller = NONE;
    }

    public int begin(int owner) throws IllegalArgumentException, IllegalStateException {
        checkOwner(owner);
        if (states[owner] != IDLE) {
            throw new IllegalStateException("the owner is not idle");
        }
        startCall(owner);
        lastSerial++;
        serials[owner] = lastSerial;
        states[owner] = WORKING;
        return lastSerial;
    }

    public int table(int owner, int table, int mode) throws IllegalArgumentException, IllegalStateException {
        checkOwner(owner);
        checkTable(table);
        checkMode(mode);
        checkWorks(owner);
        startCall(owner);
        int held = locks.heldMode(owner, table);
        if (held == NONE && isFull()) {
            return IS_REFUSED;
        }
        requests.setTable(owner, table, Modes.strengthened(held, mode), held != NONE);
        return ask(owner);
    }

    public int range(int owner, int table, long low, long high, int mode)
            throws IllegalArgumentException, IllegalStateException, UnsupportedOperationException {
        checkOwner(owner);
        checkTable(table);
        checkRange(low, high, mode);
        checkWorks(owner);
        if (!Modes.allowsRange(locks.heldMode(owner, table), mode)) {
            throw new UnsupportedOperationException("the table is not held as the range needs it");
        }
        startCall(owner);
        if (locks.coverRange(owner, table, low, high, mode)) {
            return IS_GRANTED;
        }
        if (locks.countRanges(owner, table) >= MOST_RANGES) {
            setEscalation(owner, table, mode);
            return ask(owner);
        }
        if (isFull()) {
            return IS_REFUSED;
        }
        requests.setRange(owner, table, low, high, mode, locks.haveRangeRound(owner, table, low, high));
        return ask(owner);
    }

    public int escalate(int owner, int table)
            throws IllegalArgumentException, IllegalStateException, UnsupportedOperationException {
        checkOwner(owner);
        checkTable(table);
        checkWorks(owner);
        if (locks.countRanges(owner, table) == 0) {
            throw new UnsupportedOperationException("the owner has no range lock on the table");
        }
        startCall(owner);
        setEscalation(owner, table, Modes.S);
        return ask(owner);
    }

    public int cancel(int owner) throws IllegalArgumentException, IllegalStateException {
        checkOwner(owner);
        checkWaits(owner);
        startCall(owner);
        takeBack(owner, WORKING);
        lookAtAll();
        return grantCount;
    }

    public int prepare(int owner) throws IllegalArgumentException, IllegalStateException {
        checkOwner(owner);
        checkWorks(owner);
        startCall(owner);
        states[owner] = PREPARED;
        locks.dropReading(owner);
        lookAtAll();
        return locks.countOf(owner);
    }

    public int unread(int owner) throws IllegalArgumentException, IllegalStateException {
        checkOwner(owner);
        checkWorks(owner);
        startCall(owner);
        locks.dropReading(owner);
        lookAtAll();
        return grantCount;
    }

    public int end(int owner) throws IllegalArgumentException, IllegalStateException {
        checkOwner(owner);
        if (states[owner] == IDLE) {
            throw new IllegalStateException("the owner is idle");
        }
        startCall(owner);
        locks.dropAll(owner);
        serials[owner] = NONE;
        takeBack(owner, IDLE);
        lookAtAll();
        return grantCount;
    }

    public void limit(int ticks) throws IllegalArgumentException {
        checkTicks(ticks);
        startCall(NONE);
        timeLimit = ticks;
    }

    public int tick(int n) throws IllegalArgumentException {
        checkTicks(n);
        startCall(NONE);
        int taken = 0;
        for (int passed = 0; passed < n; passed++) {
            now++;
            taken += takeBackOverdue();
        }
        return taken;
    }

    public int state(int owner) throws IllegalArgumentException {
        checkOwner(owner);
        return states[owner];
    }

    public int serial(int owner) throws IllegalArgumentException {
        checkOwner(owner);
        return serials[owner];
    }

    public int ranges(int owner, int table) throws IllegalArgumentException {
        checkOwner(owner);
        checkTable(table);
        return locks.countRanges(owner, table);
    }

    public int all() {
        return locks.countAll() + requests.waiting;
    }

    public int mode(int owner, int table) throws IllegalArgumentException {
        checkOwner(owner);
        checkTable(table);
        return locks.heldMode(owner, table);
    }

    public int right(int owner, int table, long key) throws IllegalArgumentException {
        checkOwner(owner);
        checkTable(table);
        return locks.strongestOn(owner, table, key);
    }

    public int queue(int i) {
        return i >= 0 && i < requests.waiting ? requests.line[i] : NONE;
    }

    public int wants(int owner, int what) throws IllegalArgumentException, IllegalStateException {
        checkOwner(owner);
        if (what < WHAT_TABLE || what > WHAT_TICKS) {
            throw new IllegalArgumentException("there is no such thing to ask for");
        }
        checkWaits(owner);
        switch (what) {
            case WHAT_TABLE:
                return requests.tables[owner];
            case WHAT_RANGE:
                return requests.onRange[owner] ? 1 : 0;
            case WHAT_MODE:
                return requests.modes[owner];
            case WHAT_INNER:
                return requests.inner[owner] ? 1 : 0;
            case WHAT_ESCALATION:
                return requests.escalating[owner] ? 1 : 0;
            default:
                return now - requests.since[owner];
        }
    }

    public int behind(int owner) throws IllegalArgumentException {
        checkOwner(owner);
        return states[owner] == WAITING ? blockers(owner) : 0;
    }

    public int granted(int i) {
        return i >= 0 && i < grantCount ? grants[i] : NONE;
    }

    public int join(int a, int b) throws IllegalArgumentException {
        checkMode(a);
        checkMode(b);
        return Modes.joined(a, b);
    }

    private static void checkOwner(int owner) {
        if (owner < 0 || owner >= OWNERS) {
            throw new IllegalArgumentException("there is no such owner");
        }
    }

    private static void checkTable(int table) {
        if (table < 0 || table >= TABLES) {
            throw new IllegalArgumentException("there is no such table");
        }
    }

    private static void checkMode(int mode) {
        if (mode < Modes.IS || mode > Modes.X) {
            throw new IllegalArgumentException("there is no such mode");
        }
    }

    private static void checkRange(long low, long high, int mode) {
        if (low > high) {
            throw new IllegalArgumentException("low is above high");
        }
        if (mode != Modes.S && mode != Modes.U && mode != Modes.X) {
            throw new IllegalArgumentException("a range is locked in S, U or X");
        }
    }

    private static void checkTicks(int ticks) {
        if (ticks < 0 || ticks > MOST_TICKS) {
            throw new IllegalArgumentException("ticks are 0 to 1000");
        }
    }

    private void checkWorks(int owner) {
        if (states[owner] != WORKING) {
            throw new IllegalStateException("the owner does not work");
        }
    }

    private void checkWaits(int owner) {
        if (states[owner] != WAITING) {
            throw new IllegalStateException("the owner does not wait");
        }
    }

    /** Every call that is no question comes by here once nothing can be thrown any more. */
    private void startCall(int owner) {
        caller = owner;
        grantCount = 0;
    }

    private boolean isFull() {
        return all() >= MOST_ROWS;
    }

    private void setEscalation(int owner, int table, int asked) {
        boolean strong = asked != Modes.S || locks.haveStrongRange(owner, table);
        int needed = strong ? Modes.X : Modes.S;
        requests.setEscalation(owner, table, Modes.strengthened(locks.heldMode(owner, table), needed));
    }

    /** The request in the owner's row is made: what a call for it answers. */
    private int ask(int owner) {
        requests.enter(owner, now);
        states[owner] = WAITING;
        if (holdsWhatItAsks(owner) || blockers(owner) == 0) {
            if (grant(owner)) {
                lookAtAll();
            }
            return IS_GRANTED;
        }
        breakRings(owner);
        if (states[owner] == WAITING) {
            return WAITS;
        }
        return states[owner] == DOOMED ? IS_VICTIM : IS_GRANTED;
    }

    private boolean holdsWhatItAsks(int owner) {
        return !requests.onRange[owner]
                && locks.heldMode(owner, requests.tables[owner]) == requests.modes[owner];
    }

    /** The owners, as bits, that keep an owner's request in the line from being granted. */
    private int blockers(int owner) {
        int table = requests.tables[owner];
        int mode = requests.modes[owner];
        int holders = requests.onRange[owner]
                ? locks.againstRange(owner, table, requests.lows[owner], requests.highs[owner], mode)
                : locks.againstTable(owner, table, mode);
        return holders | requests.againstBefore(owner);
    }

    /** The owner gets what it asks for; true when locks of its own went by that. */
    private boolean grant(int owner) {
        requests.leave(owner);
        states[owner] = WORKING;
        if (owner != caller && grantCount < grants.length) {
            grants[grantCount] = owner;
            grantCount++;
        }
        int table = requests.tables[owner];
        int mode = requests.modes[owner];
        if (requests.onRange[owner]) {
            locks.addRange(owner, table, requests.lows[owner], requests.highs[owner], mode);
            return false;
        }
        locks.setTable(owner, table, mode);
        if (!requests.escalating[owner]) {
            return false;
        }
        locks.dropRanges(owner, table);
        return true;
    }

    private void takeBack(int owner, int newState) {
        requests.leave(owner);
        states[owner] = newState;
    }

    private void lookAtAll() {
        boolean again = true;
        // Only a granted escalation asks for one more pass, and each owner has one request at most.
        for (int pass = 0; again && pass <= OWNERS; pass++) {
            again = false;
            int place = 0;
            for (int looks = requests.waiting; looks > 0 && place < requests.waiting; looks--) {
                int owner = requests.line[place];
                if (blockers(owner) != 0) {
                    place++;
                } else if (grant(owner)) {
                    again = true;
                }
            }
        }
    }

    private void breakRings(int owner) {
        for (int victims = 0; victims < OWNERS && states[owner] == WAITING; victims++) {
            int ring = ringOf(owner);
            if (ring == 0) {
                return;
            }
            takeBack(newestOf(ring, owner), DOOMED);
            lookAtAll();
        }
    }

    /** The owners, as bits, in a ring with this one; 0 when it is not behind itself. */
    private int ringOf(int owner) {
        for (int i = 0; i < OWNERS; i++) {
            reached[i] = states[i] == WAITING ? blockers(i) : 0;
        }
        for (int by = 0; by < OWNERS; by++) {
            for (int i = 0; i < OWNERS; i++) {
                if (hasBit(reached[i], by)) {
                    reached[i] |= reached[by];
                }
            }
        }
        int ring = 0;
        for (int i = 0; i < OWNERS; i++) {
            if (hasBit(reached[owner], i) && hasBit(reached[i], owner)) {
                ring |= 1 << i;
            }
        }
        return ring;
    }

    private static boolean hasBit(int bits, int place) {
        return (bits >> place & 1) != 0;
    }

    private int newestOf(int ring, int member) {
        int newest = member;
        for (int i = 0; i < OWNERS; i++) {
            if (hasBit(ring, i) && serials[i] > serials[newest]) {
                newest = i;
            }
        }
        return newest;
    }

    private int takeBackOverdue() {
        int taken = 0;
        while (taken < OWNERS) {
            int owner = timeLimit == 0 ? NONE : requests.firstOverdue(now, timeLimit);
            if (owner == NONE) {
                return taken;
            }
            takeBack(owner, WORKING);
            lookAtAll();
            taken++;
        }
        return taken;
    }

    /** What the modes say of one another. */
    private static final class Modes {
        static final int IS = 0;
        static final int IX = 1;
        static final int S = 2;
        static final int SIX = 3;
        static final int U = 4;
        static final int X = 5;

        private static final int COUNT = 6;
        // For each mode the modes, as bits, that it goes together with.
        private static final int[] TOGETHER = {31, 3, 21, 1, 5, 0};
        // For each mode the modes, as bits, of the ranges that a table or a range held in it covers.
        private static final int[] BY_TABLE = {0, 0, 4, 4, 4, 52};
        private static final int[] BY_RANGE = {0, 0, 4, 0, 20, 52};

        static boolean goTogether(int a, int b) {
            return (TOGETHER[a] >> b & 1) != 0;
        }

        static int joined(int a, int b) {
            int both = TOGETHER[a] & TOGETHER[b];
            int best = X;
            for (int m = 0; m < COUNT; m++) {
                boolean keepsOut = (TOGETHER[m] & ~both) == 0;
                if (keepsOut && Integer.bitCount(TOGETHER[m]) > Integer.bitCount(TOGETHER[best])) {
                    best = m;
                }
            }
            return best;
        }

        /** What a table that is held so, or not at all, must be held in to have the mode too. */
        static int strengthened(int held, int mode) {
            return held == NONE ? mode : joined(held, mode);
        }

        static boolean tableCovers(int held, int mode) {
            return held != NONE && (BY_TABLE[held] >> mode & 1) != 0;
        }

        static boolean rangeCovers(int held, int mode) {
            return (BY_RANGE[held] >> mode & 1) != 0;
        }

        static boolean allowsRange(int held, int mode) {
            return mode == S ? held != NONE : held == IX || held == SIX || held == X;
        }

        static boolean isReading(int mode) {
            return mode == IS || mode == S || mode == U;
        }
    }

    /** The locks that are held: a mode for each owner and table, and rows of range locks. */
    private static final class Locks {
        private final int[] tableModes;
        private final int[] owners;
        private final int[] tables;
        private final long[] lows;
        private final long[] highs;
        private final int[] modes;
        private int count;

        Locks() {
            tableModes = new int[OWNERS * TABLES];
            Arrays.fill(tableModes, NONE);
            owners = new int[MOST_ROWS];
            tables = new int[MOST_ROWS];
            lows = new long[MOST_ROWS];
            highs = new long[MOST_ROWS];
            modes = new int[MOST_ROWS];
        }

        int heldMode(int owner, int table) {
            return tableModes[owner * TABLES + table];
        }

        void setTable(int owner, int table, int mode) {
            tableModes[owner * TABLES + table] = mode;
        }

        void addRange(int owner, int table, long low, long high, int mode) {
            // Requests are refused before the rows are full, so this never turns one away.
            if (count < MOST_ROWS) {
                owners[count] = owner;
                tables[count] = table;
                lows[count] = low;
                highs[count] = high;
                modes[count] = mode;
                count++;
            }
        }

        boolean coverRange(int owner, int table, long low, long high, int mode) {
            if (Modes.tableCovers(heldMode(owner, table), mode)) {
                return true;
            }
            for (int i = 0; i < count; i++) {
                if (isRound(i, owner, table, low, high) && Modes.rangeCovers(modes[i], mode)) {
                    return true;
                }
            }
            return false;
        }

        boolean haveRangeRound(int owner, int table, long low, long high) {
            for (int i = 0; i < count; i++) {
                if (isRound(i, owner, table, low, high)) {
                    return true;
                }
            }
            return false;
        }

        boolean haveStrongRange(int owner, int table) {
            for (int i = 0; i < count; i++) {
                if (isOn(i, owner, table) && modes[i] != Modes.S) {
                    return true;
                }
            }
            return false;
        }

        int countRanges(int owner, int table) {
            int found = 0;
            for (int i = 0; i < count; i++) {
                if (isOn(i, owner, table)) {
                    found++;
                }
            }
            return found;
        }

        int countOf(int owner) {
            int found = 0;
            for (int t = 0; t < TABLES; t++) {
                if (heldMode(owner, t) != NONE) {
                    found++;
                }
            }
            for (int i = 0; i < count; i++) {
                if (owners[i] == owner) {
                    found++;
                }
            }
            return found;
        }

        int countAll() {
            int found = count;
            for (int i = 0; i < tableModes.length; i++) {
                if (tableModes[i] != NONE) {
                    found++;
                }
            }
            return found;
        }

        int strongestOn(int owner, int table, long key) {
            int held = heldMode(owner, table);
            int best = NONE;
            if (Modes.tableCovers(held, Modes.X)) {
                best = Modes.X;
            } else if (Modes.tableCovers(held, Modes.S)) {
                best = Modes.S;
            }
            for (int i = 0; i < count; i++) {
                if (isRound(i, owner, table, key, key)) {
                    // S, U and X stand in the order of their strength.
                    best = Math.max(best, modes[i]);
                }
            }
            return best;
        }

        /** The other owners, as bits, that hold the table in a mode against this one. */
        int againstTable(int owner, int table, int mode) {
            int found = 0;
            for (int other = 0; other < OWNERS; other++) {
                int held = heldMode(other, table);
                if (other != owner && held != NONE && !Modes.goTogether(held, mode)) {
                    found |= 1 << other;
                }
            }
            return found;
        }

        /** The other owners, as bits, that have a lock on a range against this one. */
        int againstRange(int owner, int table, long low, long high, int mode) {
            int found = 0;
            for (int i = 0; i < count; i++) {
                boolean meets = tables[i] == table && lows[i] <= high && low <= highs[i];
                if (meets && owners[i] != owner && !Modes.goTogether(modes[i], mode)) {
                    found |= 1 << owners[i];
                }
            }
            return found;
        }

        void dropRanges(int owner, int table) {
            for (int i = count - 1; i >= 0; i--) {
                if (isOn(i, owner, table)) {
                    dropRow(i);
                }
            }
        }

        void dropReading(int owner) {
            for (int t = 0; t < TABLES; t++) {
                int held = heldMode(owner, t);
                if (held == Modes.SIX) {
                    setTable(owner, t, Modes.IX);
                } else if (Modes.isReading(held)) {
                    setTable(owner, t, NONE);
                }
            }
            for (int i = count - 1; i >= 0; i--) {
                if (owners[i] == owner && Modes.isReading(modes[i])) {
                    dropRow(i);
                }
            }
        }

        void dropAll(int owner) {
            for (int t = 0; t < TABLES; t++) {
                setTable(owner, t, NONE);
            }
            for (int i = count - 1; i >= 0; i--) {
                if (owners[i] == owner) {
                    dropRow(i);
                }
            }
        }

        private boolean isOn(int i, int owner, int table) {
            return owners[i] == owner && tables[i] == table;
        }

        private boolean isRound(int i, int owner, int table, long low, long high) {
            return isOn(i, owner, table) && lows[i] <= low && high <= highs[i];
        }

        /** The last row takes the place: the rows have no order, and those that drop go downwards. */
        private void dropRow(int i) {
            count--;
            owners[i] = owners[count];
            tables[i] = tables[count];
            lows[i] = lows[count];
            highs[i] = highs[count];
            modes[i] = modes[count];
        }
    }

    /** The latest request of each owner, and the line of the owners that wait, in the order. */
    private static final class Requests {
        final int[] tables;
        final boolean[] onRange;
        final long[] lows;
        final long[] highs;
        final int[] modes;
        final boolean[] inner;
        final boolean[] escalating;
        final int[] since;
        final int[] line;
        int waiting;
        private final int[] arrivals;
        private int arrived;

        Requests() {
            tables = new int[OWNERS];
            onRange = new boolean[OWNERS];
            lows = new long[OWNERS];
            highs = new long[OWNERS];
            modes = new int[OWNERS];
            inner = new boolean[OWNERS];
            escalating = new boolean[OWNERS];
            since = new int[OWNERS];
            line = new int[OWNERS];
            arrivals = new int[OWNERS];
        }

        void setTable(int owner, int table, int mode, boolean isInner) {
            tables[owner] = table;
            onRange[owner] = false;
            modes[owner] = mode;
            inner[owner] = isInner;
            escalating[owner] = false;
        }

        void setEscalation(int owner, int table, int mode) {
            setTable(owner, table, mode, true);
            escalating[owner] = true;
        }

        void setRange(int owner, int table, long low, long high, int mode, boolean isInner) {
            setTable(owner, table, mode, isInner);
            onRange[owner] = true;
            lows[owner] = low;
            highs[owner] = high;
        }

        /** Puts an owner that is not in the line behind the last request of its sort. */
        void enter(int owner, int now) {
            if (waiting >= OWNERS) {
                return;
            }
            int place = waiting;
            while (place > 0 && inner[owner] && !inner[line[place - 1]]) {
                line[place] = line[place - 1];
                place--;
            }
            line[place] = owner;
            waiting++;
            since[owner] = now;
            arrivals[owner] = arrived;
            arrived++;
        }

        /** Takes an owner out of the line, if it is in it. */
        void leave(int owner) {
            int kept = 0;
            for (int place = 0; place < waiting; place++) {
                if (line[place] != owner) {
                    line[kept] = line[place];
                    kept++;
                }
            }
            waiting = kept;
        }

        /** The owners, as bits, before this one in the line whose requests are against its own. */
        int againstBefore(int owner) {
            int found = 0;
            for (int place = 0; place < waiting && line[place] != owner; place++) {
                int other = line[place];
                if (meet(owner, other) && !Modes.goTogether(modes[owner], modes[other])) {
                    found |= 1 << other;
                }
            }
            return found;
        }

        /** Of the owners that have waited so many ticks or more, the one whose request came first. */
        int firstOverdue(int now, int ticks) {
            int first = NONE;
            for (int place = 0; place < waiting; place++) {
                int owner = line[place];
                boolean overdue = now - since[owner] >= ticks;
                if (overdue && (first == NONE || arrivals[owner] < arrivals[first])) {
                    first = owner;
                }
            }
            return first;
        }

        private boolean meet(int a, int b) {
            if (tables[a] != tables[b] || onRange[a] != onRange[b]) {
                return false;
            }
            return !onRange[a] || lows[a] <= highs[b] && lows[b] <= highs[a];
        }
    }
}
