/** The numbers of the document, and short ways to a table that a test starts from. */
final class Plain {
    static final int IS = 0;
    static final int IX = 1;
    static final int S = 2;
    static final int SIX = 3;
    static final int U = 4;
    static final int X = 5;

    static final int IDLE = 0;
    static final int WORKING = 1;
    static final int WAITING = 2;
    static final int DOOMED = 3;
    static final int PREPARED = 4;

    static final int GRANTED = 0;
    static final int WAITS = 1;
    static final int VICTIM = 2;
    static final int REFUSED = 3;

    static final int NONE = LockTable.NONE;

    private Plain() {
    }

    /** A new table on which the owners 0 .. n - 1 work, with the serials 1 .. n. */
    static LockTable working(int n) {
        LockTable t = new LockTable();
        for (int owner = 0; owner < n; owner++) {
            t.begin(owner);
        }
        return t;
    }

    /** The owners that wait, in their order, as digits. */
    static String line(LockTable t) {
        StringBuilder b = new StringBuilder();
        for (int i = 0; t.queue(i) != NONE; i++) {
            b.append(t.queue(i));
        }
        return b.toString();
    }

    /** The owners that the latest call granted something, as digits. */
    static String grants(LockTable t) {
        StringBuilder b = new StringBuilder();
        for (int i = 0; t.granted(i) != NONE; i++) {
            b.append(t.granted(i));
        }
        return b.toString();
    }

    /** The states of all owners, as digits. */
    static String states(LockTable t) {
        StringBuilder b = new StringBuilder();
        for (int owner = 0; owner < 8; owner++) {
            b.append(t.state(owner));
        }
        return b.toString();
    }

    /** Locks on n ranges of one key each, 10, 20, .., in one mode. */
    static void lockTens(LockTable t, int owner, int table, int n, int mode) {
        for (int i = 1; i <= n; i++) {
            t.range(owner, table, 10L * i, 10L * i, mode);
        }
    }

    /**
     * An object with an owner in each state: 4, 6 and 7 are idle (4 has ended), 0 and 5 work, 1 waits, 2 is
     * doomed and 3 prepared. Owner 0 has the keys 1 .. 9 of table 0 in X; the latest call granted 5 something.
     */
    static LockTable everyState() {
        LockTable t = working(6);
        t.table(0, 0, IX);
        t.range(0, 0, 1, 9, X);
        t.table(1, 1, X);
        t.table(2, 2, X);
        t.table(1, 2, S);
        t.table(2, 1, S);
        t.table(3, 3, X);
        t.prepare(3);
        t.table(4, 4, X);
        t.table(5, 4, S);
        t.end(4);
        return t;
    }

    /** What the questions tell, of the tables 0 .. 4: some 200 calls of the 512 that an object has. */
    static String picture(LockTable t) {
        StringBuilder b = new StringBuilder();
        b.append(t.all()).append(" line ").append(line(t)).append(" granted ").append(grants(t));
        for (int owner = 0; owner < 8; owner++) {
            b.append(" / ").append(t.state(owner)).append(' ').append(t.serial(owner));
            b.append(' ').append(t.behind(owner));
            for (int what = 0; t.state(owner) == WAITING && what < 6; what++) {
                b.append(' ').append(t.wants(owner, what));
            }
            for (int table = 0; table < 5; table++) {
                b.append(' ').append(t.mode(owner, table)).append(',').append(t.ranges(owner, table));
                b.append(',').append(t.right(owner, table, 5));
            }
        }
        return b.toString();
    }
}
