/** The boundaries that the document's Terms name for owners, locks, modes, requests and escalation. */
public final class TermsEdgeTest {
    private static final Due DUE = new Due();
    private static final long LEAST = Long.MIN_VALUE;
    private static final long MOST = Long.MAX_VALUE;
    private static final int[] RANGE_MODES = {Plain.S, Plain.U, Plain.X};

    public static void main(String[] args) {
        owners();
        serials();
        tables();
        bothEndsCounted();
        longs();
        ownersDiffer();
        sameTable();
        keyInCommon();
        keyInCommonWithARequest();
        tableAndRangeNeverAgainst();
        oneLockOnATable();
        tableCovers();
        rangeCoversARangeInIt();
        rangeCoversModes();
        oneLockAlone();
        heldInThatMode();
        heldWhenAnInnerOneWaits();
        coveredWhoeverWaits();
        eightAndNine();
        eightOfOneOwnerOnOneTable();
        eightAndACoveredOne();
        ninthWaits();
        ninthAfterSomeWent();
        escalationMode();
        escalationByWhatIsAsked();
        escalationJoined();
        escalationHeldAlready();
        escalationHeldWhenAnInnerOneWaits();
        escalationLeavesOthers();
        DUE.finish();
    }

    private static void owners() {
        DUE.about("Terms: OWNERS 0 .. 7 are IDLE (0), WORKING (1), WAITING (2), DOOMED (3) or PREPARED (4)");
        DUE.text("one in each", Plain.states(Plain.everyState()), "12340100");
        LockTable t = Plain.working(8);
        DUE.text("all eight", Plain.states(t), "11111111");
    }

    private static void serials() {
        DUE.about("Terms: One that begins gets a SERIAL, 1, 2, .., to the last of an object's 512 calls");
        LockTable t = new LockTable();
        for (int serial = 1; serial <= 256; serial++) {
            int owner = serial * 3 % 8;
            DUE.same("begin(" + owner + ")", t.begin(owner), serial);
            DUE.same("end(" + owner + ")", t.end(owner), 0);
        }
    }

    private static void tables() {
        DUE.about("Terms: a whole TABLE (0 .. 15)");
        LockTable t = Plain.working(8);
        for (int table = 0; table < 16; table++) {
            int owner = table % 8;
            DUE.same("table " + table, t.table(owner, table, Plain.X), Plain.GRANTED);
        }
        for (int owner = 0; owner < 8; owner++) {
            for (int table = 0; table < 16; table++) {
                int held = table % 8 == owner ? Plain.X : Plain.NONE;
                DUE.same("owner " + owner + ", table " + table, t.mode(owner, table), held);
            }
        }
        DUE.same("sixteen locks", t.all(), 16);
    }

    /** Owners 0 and 1 hold table 0 in IX, and 0 has the keys from low to high of it in that mode. */
    private static LockTable held(long low, long high, int mode) {
        LockTable t = Plain.working(2);
        t.table(0, 0, Plain.IX);
        t.table(1, 0, Plain.IX);
        t.range(0, 0, low, high, mode);
        return t;
    }

    private static void bothEndsCounted() {
        DUE.about("Terms: from low to high, both counted");
        LockTable t = held(10, 20, Plain.X);
        DUE.same("just below", t.right(0, 0, 9), Plain.NONE);
        DUE.same("low", t.right(0, 0, 10), Plain.X);
        DUE.same("high", t.right(0, 0, 20), Plain.X);
        DUE.same("just above", t.right(0, 0, 21), Plain.NONE);
        LockTable one = held(10, 10, Plain.X);
        DUE.same("a range of one key, below", one.right(0, 0, 9), Plain.NONE);
        DUE.same("a range of one key", one.right(0, 0, 10), Plain.X);
        DUE.same("a range of one key, above", one.right(0, 0, 11), Plain.NONE);
    }

    private static void longs() {
        DUE.about("Terms: keys are longs, and none is next to the greatest");
        LockTable most = held(MOST, MOST, Plain.X);
        DUE.same("the least is not met", most.range(1, 0, LEAST, LEAST, Plain.X), Plain.GRANTED);
        DUE.same("nor all but the greatest", most.range(1, 0, LEAST, MOST - 1, Plain.X), Plain.GRANTED);
        DUE.same("the greatest is", most.range(1, 0, MOST, MOST, Plain.X), Plain.WAITS);
        LockTable least = held(LEAST, LEAST, Plain.X);
        DUE.same("all but the least", least.range(1, 0, LEAST + 1, MOST, Plain.X), Plain.GRANTED);
        DUE.same("the least", least.range(1, 0, LEAST, LEAST, Plain.S), Plain.WAITS);
        LockTable all = held(LEAST, MOST, Plain.X);
        long[] keys = {LEAST, -1, 0, 1, 1L << 32, MOST};
        for (long key : keys) {
            DUE.same("right at " + key, all.right(0, 0, key), Plain.X);
        }
        DUE.same("any key is met", all.range(1, 0, 1L << 40, 1L << 40, Plain.S), Plain.WAITS);
        LockTable half = held(1L << 32, 1L << 32, Plain.X);
        DUE.same("the upper half of a long counts", half.range(1, 0, 0, 0, Plain.X), Plain.GRANTED);
        DUE.same("in rights too", half.right(0, 0, 0), Plain.NONE);
    }

    private static void ownersDiffer() {
        DUE.about("Terms: AGAINST one another when their owners differ");
        LockTable t = held(1, 5, Plain.X);
        DUE.same("its own range in X", t.range(0, 0, 5, 9, Plain.X), Plain.GRANTED);
        DUE.same("the other's", t.range(1, 0, 9, 9, Plain.X), Plain.WAITS);
        LockTable alone = Plain.working(2);
        for (int mode = Plain.IS; mode <= Plain.X; mode++) {
            DUE.same("its own table, then in " + mode, alone.table(0, 0, mode), Plain.GRANTED);
        }
        DUE.same("the other's table", alone.table(1, 0, Plain.IS), Plain.WAITS);
    }

    private static void sameTable() {
        DUE.about("Terms: on the same whole table, or on ranges of the same table");
        LockTable t = held(1, 9, Plain.X);
        t.table(0, 7, Plain.X);
        DUE.same("the table below", t.table(1, 6, Plain.X), Plain.GRANTED);
        DUE.same("the table above", t.table(1, 8, Plain.X), Plain.GRANTED);
        t.table(0, 1, Plain.IX);
        t.table(1, 1, Plain.IX);
        DUE.same("the same keys of another table", t.range(1, 1, 1, 9, Plain.X), Plain.GRANTED);
        DUE.same("the same whole table", t.table(1, 7, Plain.IS), Plain.WAITS);
    }

    private static void keyInCommon() {
        DUE.about("Terms: ranges of the same table that have a key in common");
        for (long low = 0; low <= 8; low++) {
            for (long high = low; high <= 8; high++) {
                LockTable t = held(3, 5, Plain.X);
                boolean common = high >= 3 && low <= 5;
                String what = low + " .. " + high + " beside 3 .. 5";
                DUE.same(what, t.range(1, 0, low, high, Plain.S), common ? Plain.WAITS : Plain.GRANTED);
                DUE.same(what + ", behind", t.behind(1), common ? 1 : 0);
            }
        }
    }

    private static void keyInCommonWithARequest() {
        DUE.about("Terms: no request of another owner that waits before it, with a key in common");
        for (long low = 0; low <= 8; low++) {
            for (long high = low; high <= 8; high++) {
                LockTable t = Plain.working(3);
                for (int owner = 0; owner < 3; owner++) {
                    t.table(owner, 0, Plain.IX);
                }
                t.range(0, 0, 4, 4, Plain.S);
                t.range(1, 0, 3, 5, Plain.X);
                boolean common = high >= 3 && low <= 5;
                String what = low + " .. " + high + " behind a request for 3 .. 5";
                DUE.same(what, t.range(2, 0, low, high, Plain.S), common ? Plain.WAITS : Plain.GRANTED);
            }
        }
    }

    private static void tableAndRangeNeverAgainst() {
        DUE.about("Terms: A whole table and a range are never against one another");
        LockTable t = Plain.working(4);
        t.table(0, 0, Plain.IX);
        t.range(0, 0, LEAST, MOST, Plain.X);
        DUE.same("IX beside a range in X", t.table(1, 0, Plain.IX), Plain.GRANTED);
        DUE.same("the range is met", t.range(1, 0, 1, 1, Plain.X), Plain.WAITS);
        DUE.same("IX while a range in X is asked for", t.table(2, 0, Plain.IX), Plain.GRANTED);
        DUE.same("the table is met", t.table(3, 0, Plain.X), Plain.WAITS);
        DUE.same("behind the table's holders", t.behind(3), 0b0111);
        t.end(0);
        DUE.same("a range in X while X is asked for the table", t.range(2, 0, 5, 5, Plain.X), Plain.GRANTED);
    }

    private static void oneLockOnATable() {
        DUE.about("Terms: An owner has one lock at most on a whole table");
        LockTable t = Plain.working(2);
        int[] asked = {Plain.IS, Plain.IX, Plain.S, Plain.U, Plain.X, Plain.IS};
        for (int mode : asked) {
            t.table(0, 0, mode);
            DUE.same("after " + mode, t.all(), 1);
        }
        t.table(0, 1, Plain.IS);
        DUE.same("on another table a second", t.all(), 2);
        t.table(1, 1, Plain.IS);
        DUE.same("of another owner a third", t.all(), 3);
    }

    private static void tableCovers() {
        DUE.about("Terms: A table's mode COVERS ranges of it: X all modes, U, SIX and S the mode S");
        // What is held first, so that the range may be asked for, and what it is strengthened to.
        int[][] covered = {
            {Plain.X, Plain.S}, {Plain.X, Plain.U}, {Plain.X, Plain.X},
            {Plain.U, Plain.S}, {Plain.SIX, Plain.S}, {Plain.S, Plain.S},
        };
        int[][] not = {
            {Plain.IS, Plain.S}, {Plain.IX, Plain.S}, {Plain.IX, Plain.U}, {Plain.IX, Plain.X},
            {Plain.SIX, Plain.U}, {Plain.SIX, Plain.X},
        };
        for (int[] pair : covered) {
            DUE.same("locks made: " + pair[1] + " in a table in " + pair[0], rangeLocksMade(pair[0], pair[1]), 0);
        }
        for (int[] pair : not) {
            DUE.same("locks made: " + pair[1] + " in a table in " + pair[0], rangeLocksMade(pair[0], pair[1]), 1);
        }
    }

    private static int rangeLocksMade(int tableMode, int rangeMode) {
        LockTable t = Plain.working(1);
        t.table(0, 0, tableMode);
        DUE.same("it is granted", t.range(0, 0, LEAST, MOST, rangeMode), Plain.GRANTED);
        return t.ranges(0, 0);
    }

    private static void rangeCoversARangeInIt() {
        DUE.about("Terms: A range lock covers a range in it");
        for (long low = 0; low <= 8; low++) {
            for (long high = low; high <= 8; high++) {
                LockTable t = held(3, 5, Plain.X);
                t.range(0, 0, low, high, Plain.X);
                boolean in = low >= 3 && high <= 5;
                DUE.same("locks then, " + low + " .. " + high + " in 3 .. 5", t.ranges(0, 0), in ? 1 : 2);
            }
        }
        LockTable ends = held(LEAST, MOST, Plain.S);
        ends.range(0, 0, LEAST, MOST, Plain.S);
        ends.range(0, 0, MOST, MOST, Plain.S);
        DUE.same("all keys in all keys", ends.ranges(0, 0), 1);
    }

    private static void rangeCoversModes() {
        DUE.about("Terms: X all modes, U the modes U and S, S the mode S");
        int[][] locksThen = {{1, 2, 2}, {1, 1, 2}, {1, 1, 1}};
        for (int h = 0; h < 3; h++) {
            for (int a = 0; a < 3; a++) {
                LockTable t = held(3, 5, RANGE_MODES[h]);
                t.range(0, 0, 4, 4, RANGE_MODES[a]);
                DUE.same(RANGE_MODES[a] + " in a range in " + RANGE_MODES[h], t.ranges(0, 0), locksThen[h][a]);
            }
        }
    }

    private static void oneLockAlone() {
        DUE.about("Terms: when one of the owner's locks alone (on the table or a range) covers the range");
        LockTable t = held(1, 5, Plain.X);
        t.range(0, 0, 6, 9, Plain.X);
        t.range(0, 0, 1, 9, Plain.X);
        DUE.same("two together do not", t.ranges(0, 0), 3);
        t.range(0, 0, 5, 6, Plain.X);
        DUE.same("the third does", t.ranges(0, 0), 3);
        t.range(1, 0, 20, 20, Plain.S);
        t.range(0, 0, 20, 20, Plain.S);
        DUE.same("another owner's does not", t.ranges(0, 0), 4);
        t.table(0, 1, Plain.IX);
        t.range(0, 1, 20, 20, Plain.S);
        DUE.same("nor one on another table", t.ranges(0, 1), 1);
    }

    private static void heldInThatMode() {
        DUE.about("Terms: GRANTED at once, and changes nothing, when the table is held in that mode");
        for (int mode = Plain.IS; mode <= Plain.X; mode++) {
            LockTable t = Plain.working(2);
            t.table(0, 0, mode);
            t.table(1, 0, Plain.X);
            String before = Plain.picture(t);
            DUE.same("in " + mode + ", before one that waits", t.table(0, 0, mode), Plain.GRANTED);
            DUE.text("in " + mode + ", what there is then", Plain.picture(t), before);
        }
        LockTable t = Plain.working(2);
        t.table(0, 0, Plain.U);
        t.table(1, 0, Plain.S);
        DUE.same("S joined with U is U", t.table(0, 0, Plain.S), Plain.GRANTED);
        DUE.same("IX joined with U is more", t.table(0, 0, Plain.IX), Plain.WAITS);
    }

    private static void heldWhenAnInnerOneWaits() {
        DUE.about("Terms: GRANTED at once when the table is held in that mode, though one against it waits before it");
        for (int mode = Plain.IS; mode <= Plain.U; mode++) {
            LockTable t = Plain.working(2);
            t.table(1, 0, Plain.IS);
            t.table(0, 0, mode);
            DUE.same("X, inner", t.table(1, 0, Plain.X), Plain.WAITS);
            String before = Plain.picture(t);
            DUE.same("in " + mode, t.table(0, 0, mode), Plain.GRANTED);
            DUE.same("less than " + mode, t.table(0, 0, Plain.IS), Plain.GRANTED);
            DUE.text("in " + mode + ", what there is then", Plain.picture(t), before);
        }
    }

    private static void coveredWhoeverWaits() {
        DUE.about("Terms: GRANTED at once, and changes nothing, when a lock covers the range");
        LockTable t = held(1, 9, Plain.S);
        t.range(1, 0, 5, 5, Plain.X);
        String before = Plain.picture(t);
        DUE.same("in it, before one that waits", t.range(0, 0, 5, 5, Plain.S), Plain.GRANTED);
        DUE.text("what there is then", Plain.picture(t), before);
        // One key more and it is behind the one that waits for it: a ring, which the newer one pays for.
        DUE.same("beyond it", t.range(0, 0, 0, 5, Plain.S), Plain.GRANTED);
        DUE.same("a lock more", t.ranges(0, 0), 2);
        DUE.same("the other", t.state(1), Plain.DOOMED);
    }

    private static void eightAndNine() {
        DUE.about("Terms: An owner that has 8 range locks on the table doesn't get a ninth");
        LockTable t = Plain.working(1);
        t.table(0, 0, Plain.IS);
        for (int n = 1; n <= 8; n++) {
            DUE.same("number " + n, t.range(0, 0, n, n, Plain.S), Plain.GRANTED);
            DUE.same("range locks", t.ranges(0, 0), n);
            DUE.same("the table", t.mode(0, 0), Plain.IS);
            DUE.same("all", t.all(), n + 1);
        }
        DUE.same("the ninth", t.range(0, 0, 9, 9, Plain.S), Plain.GRANTED);
        DUE.same("range locks", t.ranges(0, 0), 0);
        DUE.same("the table", t.mode(0, 0), Plain.S);
        DUE.same("all", t.all(), 1);
    }

    private static void eightOfOneOwnerOnOneTable() {
        DUE.about("Terms: An owner that has 8 range locks on the table: that owner, that table");
        LockTable t = Plain.working(2);
        for (int owner = 0; owner < 2; owner++) {
            t.table(owner, 0, Plain.IS);
            t.table(owner, 1, Plain.IS);
            Plain.lockTens(t, owner, 0, 8, Plain.S);
            Plain.lockTens(t, owner, 1, 8, Plain.S);
        }
        for (int owner = 0; owner < 2; owner++) {
            DUE.same("on the one", t.ranges(owner, 0), 8);
            DUE.same("on the other", t.ranges(owner, 1), 8);
            DUE.same("no escalation", t.mode(owner, 0), Plain.IS);
        }
    }

    private static void eightAndACoveredOne() {
        DUE.about("Terms: doesn't get a ninth; one that is covered makes none");
        LockTable t = Plain.working(1);
        t.table(0, 0, Plain.IX);
        Plain.lockTens(t, 0, 0, 8, Plain.U);
        DUE.same("the same", t.range(0, 0, 80, 80, Plain.U), Plain.GRANTED);
        DUE.same("a weaker one", t.range(0, 0, 10, 10, Plain.S), Plain.GRANTED);
        DUE.same("still eight", t.ranges(0, 0), 8);
        DUE.same("still IX", t.mode(0, 0), Plain.IX);
        DUE.same("a stronger one", t.range(0, 0, 10, 10, Plain.X), Plain.GRANTED);
        DUE.same("is a ninth", t.ranges(0, 0), 0);
        DUE.same("so the table is X", t.mode(0, 0), Plain.X);
    }

    private static void ninthWaits() {
        DUE.about("Terms: when it is granted, at once or later, its range locks on that table go");
        LockTable t = Plain.working(2);
        t.table(0, 0, Plain.IS);
        t.table(1, 0, Plain.IX);
        Plain.lockTens(t, 0, 0, 8, Plain.S);
        DUE.same("the ninth", t.range(0, 0, 90, 90, Plain.S), Plain.WAITS);
        DUE.same("eight while it waits", t.ranges(0, 0), 8);
        DUE.same("for a table", t.wants(0, 1), 0);
        DUE.same("in S", t.wants(0, 2), Plain.S);
        DUE.same("inner", t.wants(0, 3), 1);
        DUE.same("an escalation", t.wants(0, 4), 1);
        t.cancel(0);
        DUE.same("eight when it is taken back", t.ranges(0, 0), 8);
        DUE.same("the ninth again", t.range(0, 0, 90, 90, Plain.S), Plain.WAITS);
        DUE.same("granted later", t.end(1), 1);
        DUE.same("none left", t.ranges(0, 0), 0);
        DUE.same("S", t.mode(0, 0), Plain.S);
    }

    private static void ninthAfterSomeWent() {
        DUE.about("Terms: An owner that has 8 range locks: those that went do not count");
        LockTable t = Plain.working(1);
        t.table(0, 0, Plain.IX);
        Plain.lockTens(t, 0, 0, 7, Plain.X);
        t.range(0, 0, 5, 5, Plain.S);
        t.unread(0);
        DUE.same("seven left", t.ranges(0, 0), 7);
        t.range(0, 0, 5, 5, Plain.S);
        DUE.same("eight again", t.ranges(0, 0), 8);
        DUE.same("and IX", t.mode(0, 0), Plain.IX);
        t.range(0, 0, 6, 6, Plain.S);
        DUE.same("the ninth", t.mode(0, 0), Plain.X);
    }

    /** The mode of table 0, held in tableMode, after an escalation of one range lock. */
    private static int escalated(int tableMode, int rangeMode) {
        LockTable t = Plain.working(1);
        t.table(0, 0, tableMode);
        t.range(0, 0, 1, 1, rangeMode);
        DUE.same("granted", t.escalate(0, 0), Plain.GRANTED);
        DUE.same("the range lock went", t.ranges(0, 0), 0);
        return t.mode(0, 0);
    }

    private static void escalationMode() {
        DUE.about("Terms: in mode X if it has a U or X lock on a range of it, otherwise in S");
        DUE.same("S on IS", escalated(Plain.IS, Plain.S), Plain.S);
        DUE.same("U on IX", escalated(Plain.IX, Plain.U), Plain.X);
        DUE.same("X on IX", escalated(Plain.IX, Plain.X), Plain.X);
        DUE.same("U on SIX", escalated(Plain.SIX, Plain.U), Plain.X);
        LockTable t = Plain.working(2);
        t.table(0, 0, Plain.IX);
        t.table(0, 1, Plain.IX);
        t.table(1, 0, Plain.IX);
        t.range(0, 0, 1, 1, Plain.S);
        t.range(0, 1, 1, 1, Plain.X);
        t.range(1, 0, 2, 2, Plain.X);
        t.escalate(0, 0);
        DUE.same("X on another table and of another owner", t.wants(0, 2), Plain.SIX);
    }

    private static void escalationByWhatIsAsked() {
        DUE.about("Terms: or asked for one");
        int[] due = {Plain.SIX, Plain.X, Plain.X};
        for (int i = 0; i < 3; i++) {
            LockTable t = Plain.working(1);
            t.table(0, 0, Plain.IX);
            Plain.lockTens(t, 0, 0, 8, Plain.S);
            t.range(0, 0, 90, 90, RANGE_MODES[i]);
            DUE.same("eight S and a ninth in " + RANGE_MODES[i], t.mode(0, 0), due[i]);
        }
        LockTable one = Plain.working(1);
        one.table(0, 0, Plain.IX);
        Plain.lockTens(one, 0, 0, 7, Plain.S);
        one.range(0, 0, 80, 80, Plain.U);
        one.range(0, 0, 90, 90, Plain.S);
        DUE.same("one U of eight and a ninth in S", one.mode(0, 0), Plain.X);
    }

    private static void escalationJoined() {
        DUE.about("Terms: joined with the mode held");
        DUE.same("S with IX", escalated(Plain.IX, Plain.S), Plain.SIX);
        LockTable t = Plain.working(1);
        t.table(0, 0, Plain.IS);
        t.range(0, 0, 1, 1, Plain.S);
        t.table(0, 0, Plain.U);
        t.escalate(0, 0);
        DUE.same("S with U", t.mode(0, 0), Plain.U);
    }

    private static void escalationHeldAlready() {
        DUE.about("Terms: when the table is held in that mode, they go at once");
        int[] held = {Plain.S, Plain.U, Plain.SIX, Plain.X};
        for (int mode : held) {
            LockTable t = Plain.working(2);
            t.table(0, 0, Plain.IS);
            Plain.lockTens(t, 0, 0, 3, Plain.S);
            t.table(0, 0, mode);
            DUE.same("they stay when the table is strengthened to " + mode, t.ranges(0, 0), 3);
            DUE.same("granted", t.escalate(0, 0), Plain.GRANTED);
            DUE.same("they went", t.ranges(0, 0), 0);
            DUE.same("the table is as it was", t.mode(0, 0), mode);
            DUE.same("one lock", t.all(), 1);
        }
    }

    private static void escalationHeldWhenAnInnerOneWaits() {
        DUE.about("Terms: when the table is held in that mode, they go at once, though one against it waits before it");
        int[] held = {Plain.S, Plain.U, Plain.SIX};
        for (int mode : held) {
            LockTable t = Plain.working(2);
            t.table(0, 0, Plain.IS);
            Plain.lockTens(t, 0, 0, 3, Plain.S);
            t.table(0, 0, mode);
            t.table(1, 0, Plain.IS);
            DUE.same("X, inner", t.table(1, 0, Plain.X), Plain.WAITS);
            DUE.same("granted", t.escalate(0, 0), Plain.GRANTED);
            DUE.same("they went", t.ranges(0, 0), 0);
            DUE.same("the table is as it was", t.mode(0, 0), mode);
            DUE.text("the other waits on", Plain.line(t), "1");
            DUE.same("two locks and a request", t.all(), 3);
        }
    }

    private static void escalationLeavesOthers() {
        DUE.about("Terms: its range locks on that table go, and no others");
        LockTable t = Plain.working(2);
        for (int owner = 0; owner < 2; owner++) {
            t.table(owner, 0, Plain.IS);
            t.table(owner, 1, Plain.IS);
            t.range(owner, 0, 1, 1, Plain.S);
            t.range(owner, 1, 1, 1, Plain.S);
            t.range(owner, 0, 2, 2, Plain.S);
        }
        t.escalate(0, 0);
        DUE.same("its own", t.ranges(0, 0), 0);
        DUE.same("on the other table", t.ranges(0, 1), 1);
        DUE.same("of the other owner", t.ranges(1, 0), 2);
        DUE.same("all", t.all(), 4 + 1 + 3);
    }
}
