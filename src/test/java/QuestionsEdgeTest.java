/** The boundaries that promises 12 to 22 name beside their exceptions: a method for each sentence. */
public final class QuestionsEdgeTest {
    private static final Due DUE = new Due();
    private static final int LEAST = Integer.MIN_VALUE;
    private static final int MOST = Integer.MAX_VALUE;

    public static void main(String[] args) {
        stateByItsCalls();
        serialOfAnIdleOne();
        serialOfPresentWork();
        rangesFromNoneToEight();
        rangesThatItWaitsFor();
        rangesOfBoth();
        allFromNone();
        allTogether();
        modeNone();
        modeOfBoth();
        rightAtTheEnds();
        rightStrongest();
        rightByTheTable();
        rightByBoth();
        rightNone();
        queueNotSoMany();
        queueBelowNone();
        wantsTheTable();
        wantsARange();
        wantsTheMode();
        wantsInner();
        wantsEscalation();
        wantsTicks();
        wantsManyTicks();
        behindAsBits();
        behindLocksOnRanges();
        behindManyRequests();
        behindNotByWayOfOthers();
        behindOfOneThatDoesNotWait();
        behindOnlyThoseBefore();
        grantedNotSoMany();
        grantedBelowNone();
        grantedAfterAThrow();
        grantedAfterQuestions();
        grantedByEachCall();
        grantedInTheirOrder();
        grantedWithoutTheCaller();
        joinOfAll();
        DUE.finish();
    }

    private static void stateByItsCalls() {
        DUE.about("12: The state");
        LockTable t = Plain.working(2);
        t.table(0, 0, Plain.X);
        DUE.same("never begun", t.state(7), Plain.IDLE);
        DUE.same("begun", t.state(1), Plain.WORKING);
        t.table(1, 0, Plain.X);
        DUE.same("not granted", t.state(1), Plain.WAITING);
        t.cancel(1);
        DUE.same("cancelled", t.state(1), Plain.WORKING);
        t.table(1, 0, Plain.X);
        t.end(0);
        DUE.same("granted", t.state(1), Plain.WORKING);
        DUE.same("ended", t.state(0), Plain.IDLE);
        t.prepare(1);
        DUE.same("prepared", t.state(1), Plain.PREPARED);
        t.end(1);
        DUE.same("ended", t.state(1), Plain.IDLE);
    }

    private static void serialOfAnIdleOne() {
        DUE.about("13: NONE for an idle one");
        LockTable t = new LockTable();
        for (int owner = 0; owner < 8; owner++) {
            DUE.same("never begun, " + owner, t.serial(owner), Plain.NONE);
            DUE.same("begun", t.serial(owner) + t.begin(owner), Plain.NONE + owner + 1);
            DUE.same("then", t.serial(owner), owner + 1);
        }
        for (int owner = 0; owner < 8; owner++) {
            t.end(owner);
            DUE.same("ended, " + owner, t.serial(owner), Plain.NONE);
        }
    }

    private static void serialOfPresentWork() {
        DUE.about("13: The serial of an owner's present work");
        LockTable t = Plain.everyState();
        int[] serials = {1, 2, 3, 4, Plain.NONE, 6, Plain.NONE, Plain.NONE};
        for (int owner = 0; owner < 8; owner++) {
            DUE.same("owner " + owner, t.serial(owner), serials[owner]);
        }
        t.end(2);
        t.begin(2);
        DUE.same("after its next begin", t.serial(2), 7);
    }

    private static void rangesFromNoneToEight() {
        DUE.about("14: How many locks an owner has on ranges of a table");
        LockTable t = Plain.working(1);
        DUE.same("without the table", t.ranges(0, 0), 0);
        t.table(0, 0, Plain.IX);
        DUE.same("with the table alone", t.ranges(0, 0), 0);
        for (int n = 1; n <= 8; n++) {
            t.range(0, 0, n, n, n % 2 == 0 ? Plain.S : Plain.X);
            DUE.same("with " + n, t.ranges(0, 0), n);
        }
    }

    private static void rangesThatItWaitsFor() {
        DUE.about("14: (those that it waits for not counted)");
        LockTable t = Plain.working(2);
        t.table(0, 0, Plain.IX);
        t.table(1, 0, Plain.IX);
        t.range(0, 0, 1, 1, Plain.X);
        t.range(1, 0, 2, 2, Plain.X);
        t.range(1, 0, 1, 1, Plain.X);
        DUE.same("one held, one waited for", t.ranges(1, 0), 1);
        t.end(0);
        DUE.same("granted", t.ranges(1, 0), 2);
    }

    private static void rangesOfBoth() {
        DUE.about("14: an owner, a table: those of both alone");
        LockTable t = Plain.working(8);
        int[] owners = {0, 7};
        int[] tables = {0, 15};
        int n = 0;
        for (int owner : owners) {
            for (int table : tables) {
                n++;
                t.table(owner, table, Plain.IS);
                Plain.lockTens(t, owner, table, n, Plain.S);
            }
        }
        DUE.same("0, 0", t.ranges(0, 0), 1);
        DUE.same("0, 15", t.ranges(0, 15), 2);
        DUE.same("7, 0", t.ranges(7, 0), 3);
        DUE.same("7, 15", t.ranges(7, 15), 4);
        DUE.same("1, 0", t.ranges(1, 0), 0);
        DUE.same("0, 1", t.ranges(0, 1), 0);
    }

    private static void allFromNone() {
        DUE.about("15: How many locks and waiting requests there are: none");
        LockTable t = new LockTable();
        DUE.same("new", t.all(), 0);
        t.begin(0);
        DUE.same("an owner is no lock", t.all(), 0);
        t.table(0, 15, Plain.IS);
        DUE.same("one", t.all(), 1);
        t.end(0);
        DUE.same("none again", t.all(), 0);
    }

    private static void allTogether() {
        DUE.about("15: How many locks and waiting requests there are, together");
        LockTable t = oneReaderAndWaiters(7);
        DUE.same("one lock, seven requests", t.all(), 8);
        t.cancel(7);
        DUE.same("one request less", t.all(), 7);
        t.end(0);
        DUE.same("one lock less, and one request that is a lock", t.all(), 6);
        DUE.same("of every state", Plain.everyState().all(), 7);
    }

    /** Owner 0 holds table 0 in S, and n others wait for it in X. */
    private static LockTable oneReaderAndWaiters(int n) {
        LockTable t = Plain.working(8);
        t.table(0, 0, Plain.S);
        for (int owner = 1; owner <= n; owner++) {
            t.table(owner, 0, Plain.X);
        }
        return t;
    }

    private static void modeNone() {
        DUE.about("16: The mode in which an owner holds a table; NONE");
        LockTable t = oneReaderAndWaiters(1);
        DUE.same("held", t.mode(0, 0), Plain.S);
        DUE.same("waited for", t.mode(1, 0), Plain.NONE);
        DUE.same("not asked for", t.mode(2, 0), Plain.NONE);
        DUE.same("of an idle one", new LockTable().mode(0, 0), Plain.NONE);
        t.end(0);
        DUE.same("after end", t.mode(0, 0), Plain.NONE);
        DUE.same("granted", t.mode(1, 0), Plain.X);
        t.table(2, 1, Plain.IX);
        t.table(3, 1, Plain.IX);
        t.table(2, 1, Plain.S);
        DUE.same("held, and a stronger one waited for", t.mode(2, 1), Plain.IX);
    }

    private static void modeOfBoth() {
        DUE.about("16: an owner, a table: of both");
        LockTable t = Plain.working(8);
        for (int mode = Plain.IS; mode <= Plain.X; mode++) {
            t.table(7, mode, mode);
            t.table(0, 15 - mode, mode);
        }
        for (int mode = Plain.IS; mode <= Plain.X; mode++) {
            DUE.same("owner 7, table " + mode, t.mode(7, mode), mode);
            DUE.same("owner 0, table " + (15 - mode), t.mode(0, 15 - mode), mode);
            DUE.same("owner 0, table " + mode, t.mode(0, mode), Plain.NONE);
        }
    }

    private static void rightAtTheEnds() {
        DUE.about("17: that an owner has on a key, by a range lock");
        int[] modes = {Plain.S, Plain.U, Plain.X};
        for (int mode : modes) {
            LockTable t = Plain.working(1);
            t.table(0, 0, Plain.IX);
            t.range(0, 0, -3, 3, mode);
            DUE.same("just below", t.right(0, 0, -4), Plain.NONE);
            DUE.same("low", t.right(0, 0, -3), mode);
            DUE.same("within", t.right(0, 0, 0), mode);
            DUE.same("high", t.right(0, 0, 3), mode);
            DUE.same("just above", t.right(0, 0, 4), Plain.NONE);
        }
    }

    private static void rightStrongest() {
        DUE.about("17: The strongest mode (X, U, S or NONE)");
        int[][] orders = {{2, 4, 5}, {2, 5, 4}, {4, 2, 5}, {4, 5, 2}, {5, 2, 4}, {5, 4, 2}};
        for (int[] order : orders) {
            LockTable t = Plain.working(1);
            t.table(0, 0, Plain.IX);
            for (int mode : order) {
                // Each reaches one key further than the next stronger one, so that all are locks.
                t.range(0, 0, mode == Plain.S ? 1 : mode - 1, 9, mode);
                t.range(0, 0, 5, mode == Plain.X ? 10 : 15 - mode, mode);
            }
            DUE.same("below all", t.right(0, 0, 0), Plain.NONE);
            DUE.same("S", t.right(0, 0, 2), Plain.S);
            DUE.same("U", t.right(0, 0, 3), Plain.U);
            DUE.same("X", t.right(0, 0, 4), Plain.X);
            DUE.same("X where all are", t.right(0, 0, 7), Plain.X);
            DUE.same("X, the highest", t.right(0, 0, 10), Plain.X);
            DUE.same("U, above", t.right(0, 0, 11), Plain.U);
            DUE.same("S, above", t.right(0, 0, 12), Plain.S);
            DUE.same("above all", t.right(0, 0, 14), Plain.NONE);
        }
    }

    private static void rightByTheTable() {
        DUE.about("17: or by what the table covers (X or S)");
        int[] due = {Plain.NONE, Plain.NONE, Plain.S, Plain.S, Plain.S, Plain.X};
        long[] keys = {Long.MIN_VALUE, 0, Long.MAX_VALUE};
        for (int mode = Plain.IS; mode <= Plain.X; mode++) {
            LockTable t = Plain.working(1);
            t.table(0, 0, mode);
            for (long key : keys) {
                DUE.same("table in " + mode + ", key " + key, t.right(0, 0, key), due[mode]);
                DUE.same("the table beside it", t.right(0, 1, key), Plain.NONE);
            }
        }
    }

    private static void rightByBoth() {
        DUE.about("17: The strongest mode, by a range lock or by what the table covers");
        LockTable t = Plain.working(1);
        t.table(0, 0, Plain.SIX);
        t.range(0, 0, 1, 1, Plain.U);
        t.range(0, 0, 2, 2, Plain.X);
        DUE.same("by the table alone", t.right(0, 0, 0), Plain.S);
        DUE.same("U above the table's S", t.right(0, 0, 1), Plain.U);
        DUE.same("X above the table's S", t.right(0, 0, 2), Plain.X);
        t.table(0, 0, Plain.X);
        DUE.same("the table's X above U", t.right(0, 0, 1), Plain.X);
    }

    private static void rightNone() {
        DUE.about("17: NONE: not by a lock that is waited for, or of another");
        LockTable t = Plain.working(2);
        t.table(0, 0, Plain.IX);
        t.table(1, 0, Plain.IX);
        t.range(0, 0, 5, 5, Plain.X);
        t.range(1, 0, 5, 5, Plain.S);
        DUE.same("waited for", t.right(1, 0, 5), Plain.NONE);
        DUE.same("of an idle one", t.right(2, 0, 5), Plain.NONE);
        DUE.same("granted", t.end(0) + t.right(1, 0, 5), 1 + Plain.S);
        DUE.same("ended", t.right(0, 0, 5), Plain.NONE);
    }

    private static void queueNotSoMany() {
        DUE.about("18: The i-th owner (from 0); NONE when there are not so many");
        for (int n = 0; n <= 7; n++) {
            LockTable t = oneReaderAndWaiters(n);
            for (int i = 0; i <= 9; i++) {
                DUE.same(n + " wait, queue(" + i + ")", t.queue(i), i < n ? i + 1 : Plain.NONE);
            }
        }
    }

    private static void queueBelowNone() {
        DUE.about("18: NONE for an i that is no place");
        LockTable t = oneReaderAndWaiters(7);
        int[] places = {-1, -2, -3, -4, -7, -8, LEAST, LEAST + 1, MOST, MOST - 1, 256, 65536};
        for (int i : places) {
            DUE.same("queue(" + i + ")", t.queue(i), Plain.NONE);
        }
        t.cancel(1);
        DUE.same("the second is the first", t.queue(0), 2);
        DUE.same("the last is gone from its place", t.queue(6), Plain.NONE);
    }

    private static void wantsTheTable() {
        DUE.about("19: the table (0)");
        for (int table = 0; table < 16; table++) {
            LockTable t = Plain.working(2);
            t.table(0, table, Plain.X);
            t.table(1, table, Plain.IS);
            DUE.same("table " + table, t.wants(1, 0), table);
        }
    }

    private static void wantsARange() {
        DUE.about("19: 1 for a range (1)");
        LockTable t = oneReaderAndWaiters(1);
        DUE.same("a table", t.wants(1, 1), 0);
        t.cancel(1);
        t.table(0, 1, Plain.IX);
        t.table(1, 1, Plain.IX);
        t.range(0, 1, 1, 1, Plain.X);
        t.range(1, 1, 1, 1, Plain.X);
        DUE.same("a range", t.wants(1, 1), 1);
        DUE.same("of the table", t.wants(1, 0), 1);
        t.cancel(1);
        t.table(1, 0, Plain.X);
        DUE.same("a table again", t.wants(1, 1), 0);
    }

    private static void wantsTheMode() {
        DUE.about("19: the mode (2)");
        for (int mode = Plain.IS; mode <= Plain.X; mode++) {
            LockTable t = Plain.working(2);
            t.table(0, 0, Plain.X);
            t.table(1, 0, mode);
            DUE.same("of a table", t.wants(1, 2), mode);
        }
        int[] modes = {Plain.S, Plain.U, Plain.X};
        for (int mode : modes) {
            LockTable t = Plain.working(2);
            t.table(0, 0, Plain.IX);
            t.table(1, 0, Plain.IX);
            t.range(0, 0, 1, 1, Plain.X);
            t.range(1, 0, 1, 1, mode);
            DUE.same("of a range", t.wants(1, 2), mode);
        }
        LockTable joined = Plain.working(2);
        joined.table(0, 0, Plain.IX);
        joined.table(1, 0, Plain.IX);
        joined.table(1, 0, Plain.S);
        DUE.same("joined with the one held", joined.wants(1, 2), Plain.SIX);
    }

    private static void wantsInner() {
        DUE.about("19: 1 when it is inner (3)");
        LockTable t = Plain.working(3);
        t.table(0, 0, Plain.IX);
        t.table(1, 0, Plain.IS);
        t.table(1, 0, Plain.S);
        t.table(2, 0, Plain.S);
        DUE.same("inner", t.wants(1, 3), 1);
        DUE.same("not", t.wants(2, 3), 0);
        t.cancel(1);
        t.table(0, 1, Plain.X);
        t.table(1, 1, Plain.S);
        DUE.same("not any more", t.wants(1, 3), 0);
    }

    private static void wantsEscalation() {
        DUE.about("19: 1 for an escalation (4)");
        LockTable t = Plain.working(2);
        t.table(0, 0, Plain.IX);
        t.table(1, 0, Plain.IS);
        t.range(1, 0, 1, 1, Plain.S);
        t.escalate(1, 0);
        DUE.same("an escalation", t.wants(1, 4), 1);
        DUE.same("for a table", t.wants(1, 1), 0);
        DUE.same("in S", t.wants(1, 2), Plain.S);
        DUE.same("inner", t.wants(1, 3), 1);
        t.cancel(1);
        t.table(1, 0, Plain.S);
        DUE.same("the same lock, asked for as a table", t.wants(1, 4), 0);
        t.cancel(1);
        t.range(0, 0, 2, 2, Plain.X);
        t.range(1, 0, 2, 2, Plain.S);
        DUE.same("a range", t.wants(1, 4), 0);
    }

    private static void wantsTicks() {
        DUE.about("19: ticks that it has waited (5)");
        LockTable t = Plain.working(3);
        t.tick(7);
        t.table(0, 0, Plain.X);
        t.table(1, 0, Plain.X);
        DUE.same("at once", t.wants(1, 5), 0);
        t.tick(0);
        DUE.same("after no tick", t.wants(1, 5), 0);
        t.tick(1);
        t.table(2, 0, Plain.X);
        DUE.same("after one", t.wants(1, 5), 1);
        t.tick(1000);
        DUE.same("the first", t.wants(1, 5), 1001);
        DUE.same("the second", t.wants(2, 5), 1000);
    }

    private static void wantsManyTicks() {
        DUE.about("19: ticks that it has waited (5): as many as an object's 512 calls can bring");
        LockTable t = Plain.working(2);
        t.table(0, 0, Plain.X);
        t.table(1, 0, Plain.X);
        for (int i = 0; i < 507; i++) {
            DUE.same("none is taken back", t.tick(1000), 0);
        }
        DUE.same("507 calls", t.wants(1, 5), 507000);
    }

    private static void behindAsBits() {
        DUE.about("20: The owners that a waiting one is behind, as bits");
        for (int holder = 0; holder < 8; holder++) {
            LockTable t = Plain.working(8);
            int waiter = (holder + 1) % 8;
            t.table(holder, 0, Plain.X);
            t.table(waiter, 0, Plain.X);
            DUE.same("owner " + holder, t.behind(waiter), 1 << holder);
        }
        for (int waiter = 0; waiter < 8; waiter += 7) {
            LockTable t = Plain.working(8);
            for (int owner = 0; owner < 8; owner++) {
                t.table(owner, 0, Plain.IS);
            }
            t.table(waiter, 0, Plain.X);
            DUE.same("all but " + waiter, t.behind(waiter), 255 - (1 << waiter));
        }
    }

    private static void behindLocksOnRanges() {
        DUE.about("20, Terms: those with a lock against its request: on ranges");
        LockTable t = Plain.working(8);
        for (int owner = 0; owner < 8; owner++) {
            t.table(owner, 0, Plain.IX);
            t.range(owner, 0, owner, owner + 1, Plain.S);
        }
        t.range(3, 0, 2, 4, Plain.X);
        DUE.same("those of the keys 2 .. 4, but for itself", t.behind(3), 0b00010110);
        t.cancel(3);
        t.range(3, 0, 0, 8, Plain.X);
        DUE.same("all but itself", t.behind(3), 0b11110111);
    }

    private static void behindManyRequests() {
        DUE.about("20, Terms: those with a request against it that waits before it: all of them");
        LockTable t = Plain.working(8);
        t.table(0, 0, Plain.S);
        for (int owner = 1; owner < 8; owner++) {
            t.table(owner, 0, owner % 2 == 0 ? Plain.IX : Plain.S);
        }
        DUE.same("the first is granted at once", t.behind(1), 0);
        DUE.same("the last S: behind three IX and no lock", t.behind(7), 0b01010100);
        DUE.same("the last IX: behind the locks and the S before it", t.behind(6), 0b00101011);
    }

    private static void behindNotByWayOfOthers() {
        DUE.about("20: (not by way of others)");
        LockTable t = Plain.working(3);
        t.table(0, 0, Plain.X);
        t.table(1, 1, Plain.X);
        t.table(1, 0, Plain.X);
        t.table(2, 1, Plain.X);
        DUE.same("behind the next", t.behind(2), 0b010);
        DUE.same("which is behind the first", t.behind(1), 0b001);
    }

    private static void behindOfOneThatDoesNotWait() {
        DUE.about("20: 0 for one that does not wait");
        LockTable t = Plain.everyState();
        int[] due = {0, 0b0100, 0, 0, 0, 0, 0, 0};
        for (int owner = 0; owner < 8; owner++) {
            DUE.same("owner " + owner, t.behind(owner), due[owner]);
        }
        t.cancel(1);
        DUE.same("one that has cancelled", t.behind(1), 0);
        t.table(1, 2, Plain.S);
        DUE.same("and waits again", t.behind(1), 0b0100);
        t.end(2);
        DUE.same("one that was granted", t.behind(1), 0);
    }

    private static void behindOnlyThoseBefore() {
        DUE.about("20, Terms: those with a request against it that waits before it");
        LockTable t = Plain.working(4);
        t.table(0, 0, Plain.S);
        t.table(1, 0, Plain.IX);
        t.table(2, 0, Plain.X);
        t.table(3, 0, Plain.IX);
        DUE.same("the first: the lock alone", t.behind(1), 0b0001);
        DUE.same("the second: the lock and the first", t.behind(2), 0b0011);
        DUE.same("the third: not the first, which it goes with", t.behind(3), 0b0101);
    }

    private static void grantedNotSoMany() {
        DUE.about("21: The i-th owner (from 0) whose request was granted; NONE when there are not so many");
        DUE.same("new", new LockTable().granted(0), Plain.NONE);
        for (int n = 0; n <= 7; n++) {
            LockTable t = Plain.working(8);
            t.table(0, 0, Plain.X);
            for (int owner = 1; owner <= n; owner++) {
                t.table(owner, 0, Plain.S);
            }
            t.end(0);
            for (int i = 0; i <= 9; i++) {
                DUE.same(n + " were, granted(" + i + ")", t.granted(i), i < n ? i + 1 : Plain.NONE);
            }
        }
    }

    /** The latest call granted 1, 2 and 3 something; 0 is idle, 4 waits for 5, and 6 has a range lock on table 2. */
    private static LockTable threeGranted() {
        LockTable t = Plain.working(7);
        t.table(5, 1, Plain.X);
        t.table(4, 1, Plain.X);
        t.table(6, 2, Plain.IS);
        t.range(6, 2, 1, 1, Plain.S);
        t.table(0, 0, Plain.X);
        t.table(1, 0, Plain.S);
        t.table(2, 0, Plain.S);
        t.table(3, 0, Plain.S);
        t.end(0);
        return t;
    }

    private static void grantedBelowNone() {
        DUE.about("21: NONE for an i that is no place");
        LockTable t = threeGranted();
        int[] places = {-1, -2, -3, -4, -8, LEAST, LEAST + 1, MOST, MOST - 1, 256, 65536};
        for (int i : places) {
            DUE.same("granted(" + i + ")", t.granted(i), Plain.NONE);
        }
    }

    private static void grantedAfterAThrow() {
        DUE.about("21: the latest call that threw nothing");
        LockTable t = threeGranted();
        DUE.noArgument("begin", () -> t.begin(8));
        DUE.noState("begin", () -> t.begin(1));
        DUE.noState("table", () -> t.table(0, 0, Plain.IS));
        DUE.noArgument("range", () -> t.range(1, 0, 2, 1, Plain.S));
        DUE.notSupported("range", () -> t.range(1, 0, 1, 1, Plain.X));
        DUE.notSupported("escalate", () -> t.escalate(1, 0));
        DUE.noState("cancel", () -> t.cancel(1));
        DUE.noState("prepare", () -> t.prepare(0));
        DUE.noState("unread", () -> t.unread(0));
        DUE.noState("end", () -> t.end(0));
        DUE.noArgument("limit", () -> t.limit(-1));
        DUE.noArgument("tick", () -> t.tick(1001));
        DUE.text("as before all of them", Plain.grants(t), "123");
    }

    private static void grantedAfterQuestions() {
        DUE.about("21: the latest call that is no question");
        LockTable t = threeGranted();
        t.state(1);
        t.serial(1);
        t.ranges(1, 0);
        t.all();
        t.mode(1, 0);
        t.right(1, 0, 0);
        t.queue(0);
        t.behind(1);
        t.granted(0);
        t.join(0, 1);
        t.wants(4, 0);
        DUE.text("as before all of them", Plain.grants(t), "123");
    }

    private static void grantedByEachCall() {
        DUE.about("21: granted in the latest call: none in a call that grants others nothing");
        LockTable[] on = new LockTable[11];
        for (int i = 0; i < on.length; i++) {
            on[i] = threeGranted();
        }
        Due.Call[] calls = {
            () -> on[0].begin(0), () -> on[1].table(1, 5, Plain.IS), () -> on[2].table(1, 0, Plain.S),
            () -> on[3].range(1, 0, 1, 1, Plain.S), () -> on[4].escalate(6, 2), () -> on[5].cancel(4),
            () -> on[6].prepare(1), () -> on[7].unread(1), () -> on[8].end(1), () -> on[9].limit(5),
            () -> on[10].tick(0),
        };
        for (int i = 0; i < calls.length; i++) {
            DUE.text("before call " + i, Plain.grants(on[i]), "123");
            DUE.text("call " + i + " throws", Due.thrownBy(calls[i]), "nothing");
            DUE.text("after call " + i, Plain.grants(on[i]), "");
        }
    }

    private static void grantedInTheirOrder() {
        DUE.about("21: in the order in which they were");
        LockTable t = Plain.working(5);
        t.table(0, 0, Plain.IX);
        t.table(1, 0, Plain.IS);
        t.table(4, 0, Plain.S);
        t.table(2, 0, Plain.S);
        t.table(3, 0, Plain.IS);
        t.table(1, 0, Plain.S);
        DUE.same("3 is granted at once", t.state(3), Plain.WORKING);
        DUE.same("three", t.end(0), 3);
        DUE.text("the inner one, then as they came", Plain.grants(t), "142");
    }

    private static void grantedWithoutTheCaller() {
        DUE.about("21: (but for the owner whose own call it was)");
        LockTable t = Plain.working(4);
        t.table(0, 0, Plain.S);
        DUE.same("granted at once", t.granted(0), Plain.NONE);
        t.table(1, 1, Plain.X);
        t.table(3, 0, Plain.X);
        t.table(2, 0, Plain.S);
        t.table(0, 1, Plain.S);
        // 3 waits before 1 and 2 and is behind 0, which is behind 1: the ring goes with 3, the newest.
        DUE.same("granted when the ring is broken", t.table(1, 0, Plain.S), Plain.GRANTED);
        DUE.text("the other alone", Plain.grants(t), "2");
        DUE.text("states", Plain.states(t), "21130000");
    }

    private static void joinOfAll() {
        DUE.about("22: Two modes joined");
        String[] joined = {"012345", "113335", "232345", "333335", "434345", "555555"};
        LockTable t = new LockTable();
        for (int a = Plain.IS; a <= Plain.X; a++) {
            for (int b = Plain.IS; b <= Plain.X; b++) {
                DUE.same("join(" + a + ", " + b + ")", t.join(a, b), joined[a].charAt(b) - '0');
            }
        }
    }
}
