/** The numbers of the document, and short ways to a table that a test starts from. */
final class Plain {
    static final int IS = 0;
    static final int IX = 1;
    static final int S = 2;
    static final int SIX = 3;
    static final int U = 4;
    static final int X = 5;

    static final int IDLE = 0;
    static final int WORKING = 1;
    static final int WAITING = 2;
    static final int DOOMED = 3;
    static final int PREPARED = 4;

    static final int GRANTED = 0;
    static final int WAITS = 1;
    static final int VICTIM = 2;
    static final int REFUSED = 3;

    static final int NONE = LockTable.NONE;

    private Plain() {
    }

    /** A new table on which the owners 0 .. n - 1 work, with the serials 1 .. n. */
    static LockTable working(int n) {
        LockTable t = new LockTable();
        for (int owner = 0; owner < n; owner++) {
            t.begin(owner);
        }
        return t;
    }

    /** The owners that wait, in their order, as digits. */
    static String line(LockTable t) {
        StringBuilder b = new StringBuilder();
        for (int i = 0; t.queue(i) != NONE; i++) {
            b.append(t.queue(i));
        }
        return b.toString();
    }

    /** The owners that the latest call granted something, as digits. */
    static String grants(LockTable t) {
        StringBuilder b = new StringBuilder();
        for (int i = 0; t.granted(i) != NONE; i++) {
            b.append(t.granted(i));
        }
        return b.toString();
    }

    /** The states of all owners, as digits. */
    static String states(LockTable t) {
        StringBuilder b = new StringBuilder();
        for (int owner = 0; owner < 8; owner++) {
            b.append(t.state(owner));
        }
        return b.toString();
    }

    /** Locks on n ranges of one key each, 10, 20, .., in one mode. */
    static void lockTens(LockTable t, int owner, int table, int n, int mode) {
        for (int i = 1; i <= n; i++) {
            t.range(owner, table, 10L * i, 10L * i, mode);
        }
    }
}
