/** The 256 locks and waiting requests of promises 3, 4, 5 and 15. */
public final class FullTest {
    private static final Due DUE = new Due();

    public static void main(String[] args) {
        LockTable t = full();
        refused(t);
        neverRefused(t);
        roomAgain(t);
        DUE.finish();
    }

    /** Eight owners, each with 14 tables in IS and 18 range locks: 256. */
    private static LockTable full() {
        LockTable t = Plain.working(8);
        for (int owner = 0; owner < 8; owner++) {
            for (int table = 0; table < 14; table++) {
                t.table(owner, table, Plain.IS);
            }
            Plain.lockTens(t, owner, 0, 8, Plain.S);
            Plain.lockTens(t, owner, 1, 8, Plain.S);
            Plain.lockTens(t, owner, 2, 1, Plain.S);
        }
        DUE.same("15: 8 * 31", t.all(), 248);
        for (int owner = 0; owner < 8; owner++) {
            DUE.same("4: there is room", t.range(owner, 3, 1, 1, Plain.S), Plain.GRANTED);
        }
        DUE.same("15: full", t.all(), 256);
        return t;
    }

    private static void refused(LockTable t) {
        DUE.same("3: a new table", t.table(0, 14, Plain.IS), Plain.REFUSED);
        DUE.same("3: it works on", t.state(0), Plain.WORKING);
        DUE.same("3: holds it not", t.mode(0, 14), Plain.NONE);
        DUE.same("4: a new range", t.range(0, 4, 1, 1, Plain.S), Plain.REFUSED);
        DUE.same("4: has it not", t.ranges(0, 4), 0);
        DUE.same("15: as before", t.all(), 256);
    }

    private static void neverRefused(LockTable t) {
        DUE.same("3: what is held", t.table(0, 0, Plain.IS), Plain.GRANTED);
        DUE.same("4: what is covered", t.range(0, 0, 10, 10, Plain.S), Plain.GRANTED);
        DUE.same("3: a table that it holds", t.table(0, 5, Plain.IX), Plain.GRANTED);
        DUE.same("15: no lock more", t.all(), 256);
        DUE.same("3: one that it holds, waiting", t.table(1, 5, Plain.S), Plain.WAITS);
        DUE.same("15: a request more", t.all(), 257);
        DUE.same("3: refused above 256 too", t.table(2, 15, Plain.IS), Plain.REFUSED);
        DUE.same("5: a ninth range escalates", t.range(2, 0, 500, 500, Plain.S), Plain.GRANTED);
        DUE.same("5: which gives room", t.all(), 249);
        DUE.same("5: S", t.mode(2, 0), Plain.S);
        for (int key = 1; key <= 7; key++) {
            DUE.same("4: up to the edge", t.range(3, 6, key, key, Plain.S), Plain.GRANTED);
        }
        DUE.same("4: not beyond it", t.range(3, 6, 8, 8, Plain.S), Plain.REFUSED);
    }

    private static void roomAgain(LockTable t) {
        DUE.same("6: a request goes", t.cancel(1), 0);
        DUE.same("15: one less", t.all(), 255);
        DUE.same("3: room for a request that waits", t.table(0, 14, Plain.X) + t.table(1, 14, Plain.X), 3);
        DUE.same("15: full again", t.all(), 256);
        DUE.same("9: an end gives room", t.end(7), 0);
        DUE.same("3: and the next is taken", t.table(1, 14, Plain.X), Plain.WAITS);
    }
}
