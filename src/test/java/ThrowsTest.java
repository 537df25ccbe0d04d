/**
 * Each exception that a promise names: it is thrown where the document says and not beside it, and a call
 * that throws changes nothing. A method here is of one such sentence.
 */
public final class ThrowsTest {
    private static final Due DUE = new Due();

    private static final int LEAST = Integer.MIN_VALUE;
    private static final int MOST = Integer.MAX_VALUE;
    private static final int[] NO_OWNERS = {-1, 8, -2, 9, -8, 16, 256, LEAST, MOST};
    private static final int[] NO_TABLES = {-1, 16, -2, 17, -16, 32, 256, LEAST, MOST};
    private static final int[] NO_MODES = {-1, 6, -2, 7, 32, LEAST, MOST};
    private static final int[] NO_TICKS = {-1, 1001, -2, 1002, -1000, LEAST, MOST};
    private static final int[] NO_WHATS = {-1, 6, -2, 7, LEAST, MOST};
    /** The owner of Plain.everyState() in each state. */
    private static final int[] OWNER_IN = {4, 0, 1, 2, 3};

    /** A call with one of its numbers left open. */
    private interface Call {
        void on(LockTable t, int n);
    }

    public static void main(String[] args) {
        beginNoSuchOwner();
        beginNotIdle();
        tableNoSuchOwner();
        tableNoSuchTable();
        tableNoSuchMode();
        tableDoesNotWork();
        rangeNoSuchOwner();
        rangeNoSuchTable();
        rangeLowAboveHigh();
        rangeLowAboveHighAtTheEnds();
        rangeModes();
        rangeOfOneThatDoesNotWork();
        rangeHoldsTheTableAsItMust();
        rangeHoldsAnotherTable();
        rangeByAnotherOwnersTable();
        escalateNoSuchOwner();
        escalateNoSuchTable();
        escalateDoesNotWork();
        escalateWithoutRangeLock();
        escalateWithRangeLockElsewhere();
        escalateAfterRangeLocksWent();
        cancelNoSuchOwner();
        cancelDoesNotWait();
        prepareNoSuchOwner();
        prepareDoesNotWork();
        unreadNoSuchOwner();
        unreadDoesNotWork();
        endNoSuchOwner();
        endIdle();
        endAgain();
        limit();
        tick();
        stateNoSuchOwner();
        serialNoSuchOwner();
        rangesNoSuchOwner();
        rangesNoSuchTable();
        modeNoSuchOwner();
        modeNoSuchTable();
        rightNoSuchOwner();
        rightNoSuchTable();
        questionsOfAnyState();
        flatIndexes();
        wantsNoSuchOwner();
        wantsNoSuchWhat();
        wantsDoesNotWait();
        behindNoSuchOwner();
        join();
        namedFirst();
        placesThatAreNone();
        anyKey();
        DUE.finish();
    }

    /** The call with each of these numbers throws that exception, and nothing changes by it. */
    private static void thrown(Class<? extends RuntimeException> kind, int[] numbers, Call call) {
        for (int n : numbers) {
            LockTable t = Plain.everyState();
            String before = Plain.picture(t);
            DUE.throwsA(kind, "with " + n, () -> call.on(t, n));
            DUE.text("with " + n + ", what there is then", Plain.picture(t), before);
        }
    }

    private static String thrownWith(int n, Call call) {
        LockTable t = Plain.everyState();
        return Due.thrownBy(() -> call.on(t, n));
    }

    /** The numbers from the lowest to the highest are none that IllegalArgumentException is thrown for. */
    private static void argumentOutside(int lowest, int highest, int[] wrong, Call call) {
        thrown(IllegalArgumentException.class, wrong, call);
        for (int n = lowest; n <= highest; n++) {
            boolean argument = thrownWith(n, call).equals("IllegalArgumentException");
            DUE.same("with " + n + ", whether it is a wrong argument", argument ? 1 : 0, 0);
        }
    }

    private static void noSuchOwner(String promise, Call call) {
        DUE.about(promise + ": IllegalArgumentException when there is no such owner");
        argumentOutside(0, 7, NO_OWNERS, call);
    }

    private static void noSuchTable(String promise, Call call) {
        DUE.about(promise + ": IllegalArgumentException when there is no such table");
        argumentOutside(0, 15, NO_TABLES, call);
    }

    /** IllegalStateException is thrown for owners in the other states, and for these nothing is. */
    private static void onlyIn(String states, Call call) {
        for (int state = Plain.IDLE; state <= Plain.PREPARED; state++) {
            int owner = OWNER_IN[state];
            if (states.indexOf('0' + state) >= 0) {
                DUE.text("in state " + state + ", what it throws", thrownWith(owner, call), "nothing");
            } else {
                thrown(IllegalStateException.class, new int[] {owner}, call);
            }
        }
    }

    private static void beginNoSuchOwner() {
        noSuchOwner("2", (t, owner) -> t.begin(owner));
    }

    private static void beginNotIdle() {
        DUE.about("2: IllegalStateException when it is not idle");
        onlyIn("0", (t, owner) -> t.begin(owner));
        DUE.text("one that never began", thrownWith(7, (t, owner) -> t.begin(owner)), "nothing");
    }

    private static void tableNoSuchOwner() {
        noSuchOwner("3", (t, owner) -> t.table(owner, 0, Plain.IS));
    }

    private static void tableNoSuchTable() {
        noSuchTable("3", (t, table) -> t.table(0, table, Plain.IS));
    }

    private static void tableNoSuchMode() {
        DUE.about("3: IllegalArgumentException when there is no such mode");
        argumentOutside(Plain.IS, Plain.X, NO_MODES, (t, mode) -> t.table(0, 0, mode));
    }

    private static void tableDoesNotWork() {
        DUE.about("3: IllegalStateException when the owner does not work");
        onlyIn("1", (t, owner) -> t.table(owner, 0, Plain.IS));
        thrown(IllegalStateException.class, new int[] {7}, (t, owner) -> t.table(owner, 0, Plain.IS));
    }

    private static void rangeNoSuchOwner() {
        noSuchOwner("4", (t, owner) -> t.range(owner, 0, 1, 1, Plain.S));
    }

    private static void rangeNoSuchTable() {
        noSuchTable("4", (t, table) -> t.range(0, table, 1, 1, Plain.S));
    }

    private static void rangeLowAboveHigh() {
        DUE.about("4: IllegalArgumentException when low is above high");
        int[] above = {6, 7, 1000, MOST};
        thrown(IllegalArgumentException.class, above, (t, low) -> t.range(0, 0, low, 5, Plain.S));
        int[] notAbove = {5, 4, 0, -1, LEAST};
        for (int low : notAbove) {
            DUE.text("low " + low, thrownWith(low, (t, n) -> t.range(0, 0, n, 5, Plain.S)), "nothing");
        }
    }

    private static void rangeLowAboveHighAtTheEnds() {
        DUE.about("4: IllegalArgumentException when low is above high, at the ends of the longs");
        long least = Long.MIN_VALUE;
        long most = Long.MAX_VALUE;
        LockTable t = Plain.everyState();
        DUE.noArgument("the most to the least", () -> t.range(0, 0, most, least, Plain.S));
        DUE.noArgument("just above the least", () -> t.range(0, 0, least + 1, least, Plain.S));
        DUE.noArgument("the most to just below", () -> t.range(0, 0, most, most - 1, Plain.S));
        DUE.noArgument("0 to the least", () -> t.range(0, 0, 0, least, Plain.S));
        // As ints both would be 1: the upper halves of the longs count.
        DUE.noArgument("the upper half", () -> t.range(0, 0, (1L << 32) + 1, 1, Plain.S));
        DUE.same("nothing came of them", t.ranges(0, 0), 1);
        DUE.same("the least alone", t.range(0, 0, least, least, Plain.S), Plain.GRANTED);
        DUE.same("the most alone", t.range(0, 0, most, most, Plain.S), Plain.GRANTED);
        DUE.same("all keys", t.range(0, 0, least, most, Plain.S), Plain.GRANTED);
        DUE.same("each is a lock", t.ranges(0, 0), 4);
    }

    private static void rangeModes() {
        DUE.about("4: IllegalArgumentException when mode not S, U or X");
        Call call = (t, mode) -> t.range(0, 0, 20, 20, mode);
        thrown(IllegalArgumentException.class, NO_MODES, call);
        thrown(IllegalArgumentException.class, new int[] {Plain.IS, Plain.IX, Plain.SIX}, call);
        DUE.text("S", thrownWith(Plain.S, call), "nothing");
        DUE.text("U", thrownWith(Plain.U, call), "nothing");
        DUE.text("X", thrownWith(Plain.X, call), "nothing");
    }

    private static void rangeOfOneThatDoesNotWork() {
        DUE.about("4: IllegalStateException when the owner does not work");
        // 1 and 2 hold the table with their number in X, 3 holds table 3: what is wrong is their state alone.
        thrown(IllegalStateException.class, new int[] {1, 2, 3}, (t, owner) -> t.range(owner, owner, 1, 1, Plain.S));
        thrown(IllegalStateException.class, new int[] {4, 7}, (t, owner) -> t.range(owner, 0, 1, 1, Plain.S));
        DUE.text("one that works", thrownWith(0, (t, owner) -> t.range(owner, 0, 1, 1, Plain.S)), "nothing");
    }

    private static void rangeHoldsTheTableAsItMust() {
        DUE.about("4: UnsupportedOperationException when it does not hold the table as it must");
        // For each mode on the table (none first) whether S, U and X on a range go with it.
        String[] goes = {"---", "S--", "SUX", "S--", "SUX", "S--", "SUX"};
        int[] modes = {Plain.S, Plain.U, Plain.X};
        for (int held = Plain.NONE; held <= Plain.X; held++) {
            for (int i = 0; i < modes.length; i++) {
                LockTable t = Plain.working(1);
                if (held != Plain.NONE) {
                    t.table(0, 3, held);
                }
                int mode = modes[i];
                String thrown = Due.thrownBy(() -> t.range(0, 3, 1, 1, mode));
                boolean due = goes[held + 1].charAt(i) == '-';
                DUE.text("range in " + mode + ", table in " + held, thrown, due ? "UnsupportedOperationException" : "nothing");
                DUE.same("the table is held as before", t.mode(0, 3), held);
            }
        }
    }

    private static void rangeHoldsAnotherTable() {
        DUE.about("4: UnsupportedOperationException when it does not hold the table as it must: that table");
        LockTable t = Plain.working(1);
        t.table(0, 3, Plain.X);
        DUE.notSupported("the one below", () -> t.range(0, 2, 1, 1, Plain.S));
        DUE.notSupported("the one above", () -> t.range(0, 4, 1, 1, Plain.S));
        DUE.same("the one that it holds", t.range(0, 3, 1, 1, Plain.S), Plain.GRANTED);
    }

    private static void rangeByAnotherOwnersTable() {
        DUE.about("4: UnsupportedOperationException when it does not hold the table as it must: that owner");
        LockTable t = Plain.working(2);
        t.table(1, 3, Plain.IX);
        DUE.notSupported("by what the other holds", () -> t.range(0, 3, 1, 1, Plain.S));
        t.table(0, 3, Plain.IS);
        DUE.same("S, by its own IS", t.range(0, 3, 1, 1, Plain.S), Plain.GRANTED);
        DUE.notSupported("X, by the other's IX", () -> t.range(0, 3, 1, 1, Plain.X));
    }

    private static void escalateNoSuchOwner() {
        noSuchOwner("5", (t, owner) -> t.escalate(owner, 0));
    }

    private static void escalateNoSuchTable() {
        noSuchTable("5", (t, table) -> t.escalate(0, table));
    }

    private static void escalateDoesNotWork() {
        DUE.about("5: IllegalStateException when the owner does not work");
        onlyIn("1", (t, owner) -> t.escalate(owner, 0));
        LockTable t = Plain.working(2);
        t.table(0, 0, Plain.IX);
        t.range(0, 0, 1, 1, Plain.X);
        t.table(1, 1, Plain.X);
        t.table(0, 1, Plain.S);
        DUE.noState("one that waits and has a range lock", () -> t.escalate(0, 0));
        t.cancel(0);
        t.prepare(0);
        DUE.same("its range lock is there", t.ranges(0, 0), 1);
        DUE.noState("one that is prepared and has a range lock", () -> t.escalate(0, 0));
    }

    private static void escalateWithoutRangeLock() {
        DUE.about("5: UnsupportedOperationException when it has no range lock on the table");
        for (int held = Plain.NONE; held <= Plain.X; held++) {
            LockTable t = Plain.working(1);
            if (held != Plain.NONE) {
                t.table(0, 0, held);
            }
            DUE.notSupported("table in " + held, () -> t.escalate(0, 0));
            DUE.same("the table is held as before", t.mode(0, 0), held);
        }
        LockTable one = Plain.working(1);
        one.table(0, 0, Plain.IS);
        one.range(0, 0, 1, 1, Plain.S);
        DUE.same("with one", one.escalate(0, 0), Plain.GRANTED);
    }

    private static void escalateWithRangeLockElsewhere() {
        DUE.about("5: UnsupportedOperationException when it has no range lock on the table: that owner, that table");
        LockTable t = Plain.working(2);
        for (int owner = 0; owner < 2; owner++) {
            t.table(owner, 0, Plain.IS);
            t.table(owner, 1, Plain.IS);
        }
        t.range(1, 0, 1, 1, Plain.S);
        t.range(0, 1, 1, 1, Plain.S);
        DUE.notSupported("the other owner has one", () -> t.escalate(0, 0));
        DUE.notSupported("the other table has one", () -> t.escalate(1, 1));
        DUE.same("its own", t.escalate(0, 1), Plain.GRANTED);
    }

    private static void escalateAfterRangeLocksWent() {
        DUE.about("5: UnsupportedOperationException when it has no range lock on the table any more");
        LockTable t = Plain.working(1);
        t.table(0, 0, Plain.IX);
        t.range(0, 0, 1, 1, Plain.S);
        t.unread(0);
        DUE.notSupported("after unread", () -> t.escalate(0, 0));
        t.range(0, 0, 1, 1, Plain.S);
        DUE.same("with one again", t.escalate(0, 0), Plain.GRANTED);
        DUE.notSupported("after an escalation", () -> t.escalate(0, 0));
        t.table(0, 1, Plain.S);
        t.range(0, 1, 1, 1, Plain.S);
        DUE.notSupported("one that the table covers is no lock", () -> t.escalate(0, 1));
    }

    private static void cancelNoSuchOwner() {
        noSuchOwner("6", (t, owner) -> t.cancel(owner));
    }

    private static void cancelDoesNotWait() {
        DUE.about("6: IllegalStateException when it does not wait");
        onlyIn("2", (t, owner) -> t.cancel(owner));
    }

    private static void prepareNoSuchOwner() {
        noSuchOwner("7", (t, owner) -> t.prepare(owner));
    }

    private static void prepareDoesNotWork() {
        DUE.about("7: IllegalStateException when it does not work");
        onlyIn("1", (t, owner) -> t.prepare(owner));
    }

    private static void unreadNoSuchOwner() {
        noSuchOwner("8", (t, owner) -> t.unread(owner));
    }

    private static void unreadDoesNotWork() {
        DUE.about("8: IllegalStateException when it does not work");
        onlyIn("1", (t, owner) -> t.unread(owner));
    }

    private static void endNoSuchOwner() {
        noSuchOwner("9", (t, owner) -> t.end(owner));
    }

    private static void endIdle() {
        DUE.about("9: IllegalStateException when it is idle");
        onlyIn("1234", (t, owner) -> t.end(owner));
        thrown(IllegalStateException.class, new int[] {6, 7}, (t, owner) -> t.end(owner));
    }

    private static void endAgain() {
        DUE.about("9: IllegalStateException when it is idle, again after each end");
        for (int owner = 0; owner < 4; owner++) {
            int which = owner;
            LockTable t = Plain.everyState();
            t.end(which);
            DUE.noState("owner " + which, () -> t.end(which));
        }
    }

    private static void limit() {
        DUE.about("10: IllegalArgumentException when it is not 0 .. 1000");
        Call call = (t, ticks) -> t.limit(ticks);
        argumentOutside(0, 2, NO_TICKS, call);
        argumentOutside(998, 1000, NO_TICKS, call);
        LockTable t = Plain.everyState();
        t.limit(2);
        DUE.noArgument("1001", () -> t.limit(1001));
        DUE.noArgument("-1", () -> t.limit(-1));
        DUE.same("the limit is as before, one tick", t.tick(1), 0);
        DUE.same("the limit is as before, two ticks", t.tick(1), 1);
    }

    private static void tick() {
        DUE.about("11: IllegalArgumentException when n is not 0 .. 1000");
        Call call = (t, n) -> t.tick(n);
        argumentOutside(0, 2, NO_TICKS, call);
        argumentOutside(998, 1000, NO_TICKS, call);
        LockTable t = Plain.everyState();
        DUE.noArgument("1001", () -> t.tick(1001));
        DUE.same("no tick of them has passed", t.wants(1, 5), 0);
        t.tick(1000);
        DUE.same("1000 are ticks", t.wants(1, 5), 1000);
    }

    private static void stateNoSuchOwner() {
        noSuchOwner("12", (t, owner) -> t.state(owner));
    }

    private static void serialNoSuchOwner() {
        noSuchOwner("13", (t, owner) -> t.serial(owner));
    }

    private static void rangesNoSuchOwner() {
        noSuchOwner("14", (t, owner) -> t.ranges(owner, 0));
    }

    private static void rangesNoSuchTable() {
        noSuchTable("14", (t, table) -> t.ranges(0, table));
    }

    private static void modeNoSuchOwner() {
        noSuchOwner("16", (t, owner) -> t.mode(owner, 0));
    }

    private static void modeNoSuchTable() {
        noSuchTable("16", (t, table) -> t.mode(0, table));
    }

    private static void rightNoSuchOwner() {
        noSuchOwner("17", (t, owner) -> t.right(owner, 0, 5));
    }

    private static void rightNoSuchTable() {
        noSuchTable("17", (t, table) -> t.right(0, table, 5));
    }

    private static void questionsOfAnyState() {
        DUE.about("12, 13, 14, 16, 17, 20: no exception is named for the state of an owner");
        onlyIn("01234", (t, owner) -> t.state(owner));
        onlyIn("01234", (t, owner) -> t.serial(owner));
        onlyIn("01234", (t, owner) -> t.ranges(owner, 0));
        onlyIn("01234", (t, owner) -> t.mode(owner, 0));
        onlyIn("01234", (t, owner) -> t.right(owner, 0, 5));
        onlyIn("01234", (t, owner) -> t.behind(owner));
    }

    /** Where rows are kept one behind the other, these would be rows of another owner. */
    private static void flatIndexes() {
        DUE.about("3, 14, 16, 17: IllegalArgumentException when there is no such owner or table, by both together");
        int[][] pairs = {{0, 16}, {1, -1}, {7, -1}, {6, 16}, {-1, 16}, {8, -1}, {-1, 17}, {8, -16}};
        for (int[] pair : pairs) {
            LockTable t = Plain.everyState();
            String what = "owner " + pair[0] + ", table " + pair[1];
            DUE.noArgument(what + ": table", () -> t.table(pair[0], pair[1], Plain.IS));
            DUE.noArgument(what + ": ranges", () -> t.ranges(pair[0], pair[1]));
            DUE.noArgument(what + ": mode", () -> t.mode(pair[0], pair[1]));
            DUE.noArgument(what + ": right", () -> t.right(pair[0], pair[1], 5));
        }
    }

    private static void wantsNoSuchOwner() {
        noSuchOwner("19", (t, owner) -> t.wants(owner, 0));
    }

    private static void wantsNoSuchWhat() {
        DUE.about("19: IllegalArgumentException when there is no such what");
        argumentOutside(0, 5, NO_WHATS, (t, what) -> t.wants(1, what));
    }

    private static void wantsDoesNotWait() {
        DUE.about("19: IllegalStateException when it does not wait");
        for (int i = 0; i < 6; i++) {
            int what = i;
            onlyIn("2", (t, owner) -> t.wants(owner, what));
        }
    }

    private static void behindNoSuchOwner() {
        noSuchOwner("20", (t, owner) -> t.behind(owner));
    }

    private static void join() {
        DUE.about("22: IllegalArgumentException when one is none");
        for (int i = Plain.IS; i <= Plain.X; i++) {
            int mode = i;
            argumentOutside(Plain.IS, Plain.X, NO_MODES, (t, a) -> t.join(a, mode));
            argumentOutside(Plain.IS, Plain.X, NO_MODES, (t, b) -> t.join(mode, b));
        }
        LockTable t = new LockTable();
        DUE.noArgument("both are none", () -> t.join(-1, 6));
    }

    private static void namedFirst() {
        DUE.about("3, 4, 5, 19: of two exceptions that are due, the one that the promise names first");
        LockTable t = Plain.everyState();
        DUE.noArgument("table: no such mode, and idle", () -> t.table(4, 0, 6));
        DUE.noArgument("table: no such table, and waits", () -> t.table(1, 16, Plain.IS));
        DUE.noArgument("range: low above high, and prepared", () -> t.range(3, 3, 2, 1, Plain.S));
        DUE.noArgument("range: no such mode, and the table is not held", () -> t.range(0, 7, 1, 1, Plain.IS));
        DUE.noState("range: doomed, and the table is not held", () -> t.range(2, 7, 1, 1, Plain.S));
        DUE.noArgument("escalate: no such table, and idle", () -> t.escalate(4, -1));
        DUE.noState("escalate: idle, and no range lock", () -> t.escalate(4, 0));
        DUE.noArgument("wants: no such what, and works", () -> t.wants(0, 6));
    }

    private static void placesThatAreNone() {
        DUE.about("15, 18, 21: no exception is named");
        int[] numbers = {0, 1, 6, 7, 8, 9, -1, -2, 255, 256, 512, LEAST, MOST};
        for (int i : numbers) {
            DUE.text("all", thrownWith(i, (t, n) -> t.all()), "nothing");
            DUE.text("queue(" + i + ")", thrownWith(i, (t, n) -> t.queue(n)), "nothing");
            DUE.text("granted(" + i + ")", thrownWith(i, (t, n) -> t.granted(n)), "nothing");
        }
    }

    private static void anyKey() {
        DUE.about("17: no exception is named for a key");
        long[] keys = {Long.MIN_VALUE, -1, 0, Long.MAX_VALUE};
        LockTable t = Plain.everyState();
        for (long key : keys) {
            DUE.same("right at " + key, t.right(0, 0, key), Plain.NONE);
        }
    }
}
