/** Promises 3, 4, 5, 14, 15, 16, 17 and 22: what is asked for, and what is held then. */
public final class RequestsTest {
    private static final Due DUE = new Due();

    /** For each mode held (row) the modes, as bits, that another owner gets beside it. */
    private static final int[] BESIDE = {0b011111, 0b000011, 0b010101, 0b000001, 0b000101, 0};

    private static final int[][] JOINED = {
        {Plain.IS, Plain.IX, Plain.S, Plain.SIX, Plain.U, Plain.X},
        {Plain.IX, Plain.IX, Plain.SIX, Plain.SIX, Plain.SIX, Plain.X},
        {Plain.S, Plain.SIX, Plain.S, Plain.SIX, Plain.U, Plain.X},
        {Plain.SIX, Plain.SIX, Plain.SIX, Plain.SIX, Plain.SIX, Plain.X},
        {Plain.U, Plain.SIX, Plain.U, Plain.SIX, Plain.U, Plain.X},
        {Plain.X, Plain.X, Plain.X, Plain.X, Plain.X, Plain.X},
    };

    public static void main(String[] args) {
        join();
        tablesTogether();
        tableStrengthens();
        tableWrong();
        rangesTogether();
        rangesMeet();
        rangeNeedsTable();
        rangeCovered();
        rangeAndTable();
        rangeRequestsMeet();
        rangeWrong();
        escalate();
        escalateHeld();
        escalateWaits();
        escalateOnce();
        escalateWrong();
        ninthRange();
        countsAndRights();
        DUE.finish();
    }

    private static void join() {
        LockTable t = new LockTable();
        for (int a = 0; a < 6; a++) {
            for (int b = 0; b < 6; b++) {
                DUE.same("22: join(" + a + ", " + b + ")", t.join(a, b), JOINED[a][b]);
            }
        }
        DUE.noArgument("22: join(6, 0)", () -> t.join(6, 0));
        DUE.noArgument("22: join(0, 6)", () -> t.join(0, 6));
        DUE.noArgument("22: join(-1, 0)", () -> t.join(-1, 0));
        DUE.noArgument("22: join(0, -1)", () -> t.join(0, -1));
    }

    private static void tablesTogether() {
        for (int held = 0; held < 6; held++) {
            for (int asked = 0; asked < 6; asked++) {
                LockTable t = Plain.working(2);
                t.table(0, 15, held);
                boolean beside = (BESIDE[held] >> asked & 1) != 0;
                String what = "3: mode " + asked + " beside " + held;
                DUE.same(what, t.table(1, 15, asked), beside ? Plain.GRANTED : Plain.WAITS);
                DUE.same(what + ", held", t.mode(1, 15), beside ? asked : Plain.NONE);
                DUE.same(what + ", state", t.state(1), beside ? Plain.WORKING : Plain.WAITING);
                DUE.same(what + ", all", t.all(), 2);
                DUE.same(what + ", on another table", t.table(0, 14, Plain.X), Plain.GRANTED);
            }
        }
    }

    private static void tableStrengthens() {
        for (int held = 0; held < 6; held++) {
            for (int asked = 0; asked < 6; asked++) {
                LockTable t = Plain.working(1);
                t.table(0, 0, held);
                DUE.same("3: strengthened", t.table(0, 0, asked), Plain.GRANTED);
                DUE.same("3: " + asked + " asked beyond " + held, t.mode(0, 0), JOINED[held][asked]);
                DUE.same("3: still one lock", t.all(), 1);
            }
        }
        LockTable t = Plain.working(2);
        t.table(0, 0, Plain.S);
        t.table(1, 0, Plain.S);
        t.table(1, 0, Plain.X);
        DUE.same("3: what is held is granted, whoever waits", t.table(0, 0, Plain.IS), Plain.GRANTED);
        DUE.same("3: and changes nothing", t.mode(0, 0), Plain.S);
        DUE.same("3: all", t.all(), 3);
    }

    private static void tableWrong() {
        LockTable t = Plain.working(2);
        DUE.noArgument("3: owner 8", () -> t.table(8, 0, 0));
        DUE.noArgument("3: owner -1", () -> t.table(-1, 0, 0));
        DUE.noArgument("3: table 16", () -> t.table(0, 16, 0));
        DUE.noArgument("3: table -1", () -> t.table(0, -1, 0));
        DUE.noArgument("3: mode 6", () -> t.table(0, 0, 6));
        DUE.noArgument("3: mode -1", () -> t.table(0, 0, -1));
        DUE.noState("3: an idle owner", () -> t.table(2, 0, 0));
        DUE.noArgument("3: an idle owner and no mode", () -> t.table(2, 0, 6));
        t.table(0, 0, Plain.X);
        t.table(1, 0, Plain.X);
        DUE.noState("3: a waiting owner", () -> t.table(1, 1, 0));
        DUE.same("3: nothing changed by them", t.all(), 2);
    }

    private static void rangesTogether() {
        int[] modes = {Plain.S, Plain.U, Plain.X};
        for (int held : modes) {
            for (int asked : modes) {
                LockTable t = Plain.working(2);
                t.table(0, 0, Plain.IX);
                t.table(1, 0, Plain.IX);
                DUE.same("4: alone", t.range(0, 0, 1, 5, held), Plain.GRANTED);
                boolean beside = (BESIDE[held] >> asked & 1) != 0;
                String what = "4: range in " + asked + " beside " + held;
                DUE.same(what, t.range(1, 0, 5, 9, asked), beside ? Plain.GRANTED : Plain.WAITS);
                DUE.same(what + ", held", t.ranges(1, 0), beside ? 1 : 0);
            }
        }
    }

    private static void rangesMeet() {
        LockTable t = Plain.working(3);
        for (int owner = 0; owner < 3; owner++) {
            t.table(owner, 0, Plain.IX);
            t.table(owner, 1, Plain.IX);
        }
        t.range(0, 0, 10, 20, Plain.X);
        DUE.same("4: below", t.range(1, 0, Long.MIN_VALUE, 9, Plain.X), Plain.GRANTED);
        DUE.same("4: above", t.range(1, 0, 21, Long.MAX_VALUE, Plain.X), Plain.GRANTED);
        DUE.same("4: on another table", t.range(1, 1, 10, 20, Plain.X), Plain.GRANTED);
        DUE.same("4: within", t.range(1, 0, 12, 13, Plain.S), Plain.WAITS);
        DUE.same("4: round it all", t.range(2, 0, Long.MIN_VALUE, Long.MAX_VALUE, Plain.S), Plain.WAITS);
        DUE.same("4: behind both", t.behind(2), 0b011);
        t.cancel(1);
        DUE.same("4: the lowest key", t.range(1, 0, 5, 10, Plain.X), Plain.WAITS);
        t.cancel(1);
        DUE.same("4: the highest key", t.range(1, 0, 20, 25, Plain.X), Plain.WAITS);
    }

    private static void rangeNeedsTable() {
        int[] modes = {Plain.S, Plain.U, Plain.X};
        for (int mode : modes) {
            LockTable t = Plain.working(1);
            DUE.notSupported("4: no table, range in " + mode, () -> t.range(0, 0, 1, 1, mode));
            for (int held = 0; held < 6; held++) {
                int table = held;
                t.table(0, table, held);
                boolean enough = mode == Plain.S || held == Plain.IX || held == Plain.SIX || held == Plain.X;
                String what = "4: range in " + mode + " with the table in " + held;
                if (enough) {
                    DUE.same(what, t.range(0, table, 1, 1, mode), Plain.GRANTED);
                } else {
                    DUE.notSupported(what, () -> t.range(0, table, 1, 1, mode));
                }
            }
        }
    }

    private static void rangeCovered() {
        int[] modes = {Plain.S, Plain.U, Plain.X};
        for (int held = 0; held < 6; held++) {
            LockTable t = Plain.working(1);
            t.table(0, 0, held);
            t.range(0, 0, 1, 1, Plain.S);
            boolean covers = held >= Plain.S;
            DUE.same("4: S covered by the table in " + held, t.ranges(0, 0), covers ? 0 : 1);
        }
        LockTable whole = Plain.working(1);
        whole.table(0, 0, Plain.X);
        whole.range(0, 0, 1, 1, Plain.U);
        whole.range(0, 0, 1, 1, Plain.X);
        DUE.same("4: U and X covered by the table in X", whole.ranges(0, 0), 0);
        for (int held : modes) {
            for (int asked : modes) {
                LockTable t = Plain.working(1);
                t.table(0, 0, Plain.IX);
                t.range(0, 0, 1, 9, held);
                t.range(0, 0, 1, 9, asked);
                String what = "4: " + asked + " in a range held in " + held;
                DUE.same(what, t.ranges(0, 0), asked <= held ? 1 : 2);
                t.range(0, 0, 0, 9, held);
                DUE.same(what + ", a longer one", t.ranges(0, 0), asked <= held ? 2 : 3);
            }
        }
        LockTable two = Plain.working(1);
        two.table(0, 0, Plain.IX);
        two.range(0, 0, 1, 5, Plain.X);
        two.range(0, 0, 6, 9, Plain.X);
        two.range(0, 0, 2, 8, Plain.S);
        DUE.same("4: two locks together cover nothing", two.ranges(0, 0), 3);
    }

    private static void rangeAndTable() {
        LockTable t = Plain.working(2);
        t.table(0, 0, Plain.IX);
        t.range(0, 0, 1, 9, Plain.X);
        DUE.same("3: a table is not against a range", t.table(1, 0, Plain.IX), Plain.GRANTED);
        t.end(1);
        t.begin(1);
        DUE.same("3: the modes on the table are", t.table(1, 0, Plain.S), Plain.WAITS);
        DUE.same("4: nor is a range against a request for the table", t.range(0, 0, -20, 20, Plain.X), Plain.GRANTED);
        LockTable u = Plain.working(3);
        u.table(0, 0, Plain.IX);
        u.range(0, 0, 1, 9, Plain.X);
        u.table(1, 0, Plain.IX);
        u.range(1, 0, 0, 9, Plain.X);
        DUE.same("3: nor a table against a request for a range", u.table(2, 0, Plain.IS), Plain.GRANTED);
    }

    private static void rangeRequestsMeet() {
        LockTable t = Plain.working(4);
        for (int owner = 0; owner < 4; owner++) {
            t.table(owner, 0, Plain.IX);
        }
        t.range(0, 0, 10, 10, Plain.X);
        t.range(1, 0, 5, 15, Plain.X);
        DUE.same("4: past a request that has no key of it", t.range(2, 0, 1, 4, Plain.X), Plain.GRANTED);
        DUE.same("4: nor above", t.range(2, 0, 16, 20, Plain.X), Plain.GRANTED);
        DUE.same("4: not past one that has its highest key", t.range(2, 0, 3, 5, Plain.S), Plain.WAITS);
        DUE.same("20: behind the request alone", t.behind(2), 0b0010);
        DUE.same("4: nor its lowest", t.range(3, 0, 15, 15, Plain.S), Plain.WAITS);
        DUE.same("20: behind the request, not the lock", t.behind(3), 0b0010);
    }

    private static void rangeWrong() {
        LockTable t = Plain.working(2);
        t.table(0, 0, Plain.IX);
        DUE.noArgument("4: owner 8", () -> t.range(8, 0, 1, 1, Plain.S));
        DUE.noArgument("4: owner -1", () -> t.range(-1, 0, 1, 1, Plain.S));
        DUE.noArgument("4: table 16", () -> t.range(0, 16, 1, 1, Plain.S));
        DUE.noArgument("4: table -1", () -> t.range(0, -1, 1, 1, Plain.S));
        DUE.noArgument("4: low above high", () -> t.range(0, 0, 2, 1, Plain.S));
        DUE.noArgument("4: far above", () -> t.range(0, 0, Long.MAX_VALUE, Long.MIN_VALUE, Plain.S));
        int[] none = {Plain.IS, Plain.IX, Plain.SIX, 6, -1, Integer.MIN_VALUE, Integer.MAX_VALUE};
        for (int mode : none) {
            DUE.noArgument("4: mode " + mode, () -> t.range(0, 0, 1, 1, mode));
        }
        DUE.noState("4: an idle owner", () -> t.range(5, 0, 1, 1, Plain.S));
        DUE.noArgument("4: an idle owner, low above high", () -> t.range(5, 0, 2, 1, Plain.S));
        DUE.notSupported("4: table not held", () -> t.range(1, 0, 1, 1, Plain.S));
        DUE.same("4: nothing changed by them", t.all(), 1);
    }

    private static void escalate() {
        LockTable t = Plain.working(1);
        t.table(0, 0, Plain.IS);
        Plain.lockTens(t, 0, 0, 2, Plain.S);
        DUE.same("5: of S ranges", t.escalate(0, 0), Plain.GRANTED);
        DUE.same("5: S", t.mode(0, 0), Plain.S);
        DUE.same("5: the ranges went", t.ranges(0, 0), 0);
        DUE.same("5: one lock", t.all(), 1);
        t.table(0, 1, Plain.IX);
        Plain.lockTens(t, 0, 1, 2, Plain.S);
        t.escalate(0, 1);
        DUE.same("5: S joined with IX", t.mode(0, 1), Plain.SIX);
        t.table(0, 2, Plain.IX);
        t.range(0, 2, 1, 1, Plain.U);
        t.escalate(0, 2);
        DUE.same("5: of a U range", t.mode(0, 2), Plain.X);
        t.table(0, 3, Plain.IX);
        t.range(0, 3, 1, 1, Plain.S);
        t.range(0, 3, 2, 2, Plain.X);
        t.range(0, 3, 3, 3, Plain.S);
        t.table(0, 4, Plain.IX);
        t.range(0, 4, 3, 3, Plain.S);
        t.escalate(0, 3);
        DUE.same("5: of an X range", t.mode(0, 3), Plain.X);
        DUE.same("5: ranges of another table stay", t.ranges(0, 4), 1);
        t.table(0, 5, Plain.IX);
        t.range(0, 5, 3, 3, Plain.X);
        t.escalate(0, 4);
        DUE.same("5: whatever ranges another table has", t.mode(0, 4), Plain.SIX);
    }

    private static void escalateHeld() {
        LockTable t = Plain.working(2);
        t.table(0, 0, Plain.IS);
        t.range(0, 0, 1, 1, Plain.S);
        t.table(0, 0, Plain.S);
        t.table(1, 0, Plain.S);
        t.table(1, 0, Plain.X);
        DUE.same("5: the range lock is still there", t.ranges(0, 0), 1);
        DUE.same("5: held already, whoever waits before", t.escalate(0, 0), Plain.GRANTED);
        DUE.same("5: the ranges went at once", t.ranges(0, 0), 0);
        DUE.same("5: the mode stays", t.mode(0, 0), Plain.S);
        LockTable u = Plain.working(1);
        u.table(0, 0, Plain.IS);
        u.range(0, 0, 1, 1, Plain.S);
        u.table(0, 0, Plain.U);
        u.escalate(0, 0);
        DUE.same("5: S joined with U", u.mode(0, 0), Plain.U);
        DUE.same("5: went too", u.ranges(0, 0), 0);
    }

    private static void escalateWaits() {
        LockTable t = Plain.working(3);
        t.table(0, 0, Plain.IX);
        t.range(0, 0, 1, 1, Plain.X);
        t.table(1, 0, Plain.IX);
        DUE.same("5: waits", t.escalate(0, 0), Plain.WAITS);
        DUE.same("5: the ranges stay so long", t.ranges(0, 0), 1);
        DUE.same("5: and the mode", t.mode(0, 0), Plain.IX);
        DUE.same("5: wants X", t.wants(0, 2), Plain.X);
        DUE.same("5: inner", t.wants(0, 3), 1);
        DUE.same("5: escalation", t.wants(0, 4), 1);
        DUE.same("5: for a table", t.wants(0, 1), 0);
        DUE.same("5: granted later", t.end(1), 1);
        DUE.same("5: X", t.mode(0, 0), Plain.X);
        DUE.same("5: the ranges went", t.ranges(0, 0), 0);
        DUE.same("5: one lock", t.all(), 1);
        LockTable ring = Plain.working(2);
        for (int owner = 0; owner < 2; owner++) {
            ring.table(owner, 0, Plain.IX);
            ring.range(owner, 0, owner, owner, Plain.X);
        }
        ring.escalate(0, 0);
        DUE.same("5: the older one waits", ring.state(0), Plain.WAITING);
        DUE.same("5: victim of a ring", ring.escalate(1, 0), Plain.VICTIM);
        DUE.same("5: keeps its locks", ring.ranges(1, 0), 1);
    }

    private static void escalateOnce() {
        LockTable t = Plain.working(2);
        t.table(0, 0, Plain.IS);
        t.range(0, 0, 1, 1, Plain.S);
        t.escalate(0, 0);
        t.table(0, 1, Plain.IX);
        t.range(0, 1, 1, 1, Plain.X);
        t.table(1, 1, Plain.IS);
        t.table(0, 1, Plain.X);
        DUE.same("19: the next request is none", t.wants(0, 4), 0);
        t.end(1);
        DUE.same("3: and leaves the ranges", t.ranges(0, 1), 1);
    }

    private static void escalateWrong() {
        LockTable t = Plain.working(1);
        t.table(0, 0, Plain.IX);
        DUE.noArgument("5: owner 8", () -> t.escalate(8, 0));
        DUE.noArgument("5: owner -1", () -> t.escalate(-1, 0));
        DUE.noArgument("5: table 16", () -> t.escalate(0, 16));
        DUE.noArgument("5: table -1", () -> t.escalate(0, -1));
        DUE.noState("5: an idle owner", () -> t.escalate(1, 0));
        DUE.notSupported("5: no range lock", () -> t.escalate(0, 0));
        t.range(0, 0, 1, 1, Plain.S);
        DUE.notSupported("5: no range lock there", () -> t.escalate(0, 1));
    }

    private static void ninthRange() {
        LockTable t = Plain.working(2);
        t.table(0, 0, Plain.IX);
        Plain.lockTens(t, 0, 0, 8, Plain.S);
        DUE.same("4: eight", t.ranges(0, 0), 8);
        DUE.same("4: a covered one is no ninth", t.range(0, 0, 10, 10, Plain.S), Plain.GRANTED);
        DUE.same("4: still eight", t.ranges(0, 0), 8);
        DUE.same("4: the ninth escalates", t.range(0, 0, 90, 90, Plain.S), Plain.GRANTED);
        DUE.same("4: to S joined with IX", t.mode(0, 0), Plain.SIX);
        DUE.same("4: none left", t.ranges(0, 0), 0);
        Plain.lockTens(t, 0, 0, 8, Plain.U);
        DUE.same("4: eight again", t.ranges(0, 0), 8);
        t.range(0, 0, 90, 90, Plain.U);
        DUE.same("4: to X, by U locks", t.mode(0, 0), Plain.X);
        t.table(0, 1, Plain.IX);
        Plain.lockTens(t, 0, 1, 8, Plain.S);
        t.table(1, 1, Plain.IS);
        DUE.same("4: X asked for in one of eight S ranges", t.range(0, 1, 10, 10, Plain.X), Plain.WAITS);
        DUE.same("4: makes it X", t.wants(0, 2), Plain.X);
        DUE.same("4: an escalation", t.wants(0, 4), 1);
        DUE.same("4: on another table there is room", t.range(1, 1, 1, 1, Plain.S), Plain.GRANTED);
    }

    private static void countsAndRights() {
        LockTable t = Plain.working(2);
        t.table(0, 0, Plain.IX);
        t.range(0, 0, 1, 9, Plain.S);
        t.range(0, 0, 3, 7, Plain.U);
        t.range(0, 0, 5, 5, Plain.X);
        t.table(1, 0, Plain.IX);
        t.range(1, 0, 5, 5, Plain.X);
        DUE.same("14: three", t.ranges(0, 0), 3);
        DUE.same("14: one that is waited for is not counted", t.ranges(1, 0), 0);
        DUE.same("14: none on another table", t.ranges(0, 1), 0);
        DUE.same("15: two tables, three ranges, a request", t.all(), 6);
        DUE.same("16: held", t.mode(0, 0), Plain.IX);
        DUE.same("16: not held", t.mode(0, 15), Plain.NONE);
        long[] keys = {0, 1, 2, 3, 4, 5, 6, 7, 8, 9, 10};
        int[] due = {-1, 2, 2, 4, 4, 5, 4, 4, 2, 2, -1};
        for (int i = 0; i < keys.length; i++) {
            DUE.same("17: key " + keys[i], t.right(0, 0, keys[i]), due[i]);
        }
        DUE.same("17: not what is waited for", t.right(1, 0, 5), Plain.NONE);
        int[] byTable = {Plain.NONE, Plain.NONE, Plain.S, Plain.S, Plain.S, Plain.X};
        for (int mode = 0; mode < 6; mode++) {
            t.table(0, mode + 1, mode);
            DUE.same("17: by the table in " + mode, t.right(0, mode + 1, Long.MIN_VALUE), byTable[mode]);
        }
        t.range(0, Plain.SIX + 1, 4, 4, Plain.U);
        DUE.same("17: the stronger one of both", t.right(0, Plain.SIX + 1, 4), Plain.U);
        t.table(0, 8, Plain.IX);
        t.range(0, 8, 5, 5, Plain.X);
        t.range(0, 8, 4, 6, Plain.S);
        DUE.same("17: whichever came first", t.right(0, 8, 5), Plain.X);
        DUE.noArgument("14: owner 8", () -> t.ranges(8, 0));
        DUE.noArgument("14: owner -1", () -> t.ranges(-1, 0));
        DUE.noArgument("14: table 16", () -> t.ranges(0, 16));
        DUE.noArgument("14: table -1", () -> t.ranges(0, -1));
        DUE.noArgument("16: owner 8", () -> t.mode(8, 0));
        DUE.noArgument("16: owner -1", () -> t.mode(-1, 0));
        DUE.noArgument("16: table 16", () -> t.mode(0, 16));
        DUE.noArgument("16: table -1", () -> t.mode(0, -1));
        DUE.noArgument("17: owner 8", () -> t.right(8, 0, 0));
        DUE.noArgument("17: owner -1", () -> t.right(-1, 0, 0));
        DUE.noArgument("17: table 16", () -> t.right(0, 16, 0));
        DUE.noArgument("17: table -1", () -> t.right(0, -1, 0));
    }
}
