/** Promises 1, 2, 7, 8, 9, 12 and 13: owners that begin, prepare, let go what they read, and end. */
public final class OwnersTest {
    private static final Due DUE = new Due();

    public static void main(String[] args) {
        newObject();
        begin();
        prepare();
        prepareGrants();
        unread();
        end();
        endOfOneThatWaits();
        stateAndSerial();
        DUE.finish();
    }

    private static void newObject() {
        LockTable t = new LockTable();
        DUE.text("1: states", Plain.states(t), "00000000");
        DUE.same("1: all", t.all(), 0);
        DUE.same("1: queue", t.queue(0), Plain.NONE);
        DUE.same("1: granted", t.granted(0), Plain.NONE);
        for (int owner = 0; owner < 8; owner++) {
            DUE.same("1: serial", t.serial(owner), Plain.NONE);
            for (int table = 0; table < 16; table++) {
                DUE.same("1: mode", t.mode(owner, table), Plain.NONE);
                DUE.same("1: ranges", t.ranges(owner, table), 0);
                DUE.same("1: right", t.right(owner, table, 0), Plain.NONE);
            }
        }
        t.begin(0);
        t.begin(1);
        t.table(0, 0, Plain.X);
        t.table(1, 0, Plain.X);
        DUE.same("1: no time limit", t.tick(1000), 0);
        DUE.same("1: it still waits", t.state(1), Plain.WAITING);
    }

    private static void begin() {
        LockTable t = new LockTable();
        DUE.same("2: begin(7)", t.begin(7), 1);
        DUE.same("2: begin(0)", t.begin(0), 2);
        DUE.noState("2: begin of one that works", () -> t.begin(7));
        DUE.noArgument("2: begin(8)", () -> t.begin(8));
        DUE.noArgument("2: begin(-1)", () -> t.begin(-1));
        t.end(7);
        DUE.same("2: a new serial after the end, and none lost by throws", t.begin(7), 3);
        DUE.text("2: states", Plain.states(t), "10000001");
        t.prepare(0);
        DUE.noState("2: begin of one that is prepared", () -> t.begin(0));
    }

    private static void prepare() {
        LockTable t = Plain.working(2);
        for (int mode = Plain.IS; mode <= Plain.X; mode++) {
            t.table(0, mode, mode);
        }
        t.range(0, Plain.IX, 1, 1, Plain.S);
        t.range(0, Plain.IX, 2, 2, Plain.U);
        t.range(0, Plain.IX, 3, 3, Plain.X);
        t.table(1, 15, Plain.S);
        DUE.same("7: IX, SIX, X and one X range stay", t.prepare(0), 4);
        DUE.same("7: state", t.state(0), Plain.PREPARED);
        int[] left = {Plain.NONE, Plain.IX, Plain.NONE, Plain.IX, Plain.NONE, Plain.X};
        for (int table = 0; table < left.length; table++) {
            DUE.same("7: mode of table " + table, t.mode(0, table), left[table]);
        }
        DUE.same("7: ranges", t.ranges(0, Plain.IX), 1);
        DUE.same("7: S range", t.right(0, Plain.IX, 1), Plain.NONE);
        DUE.same("7: U range", t.right(0, Plain.IX, 2), Plain.NONE);
        DUE.same("7: X range", t.right(0, Plain.IX, 3), Plain.X);
        DUE.same("7: the other's locks stay", t.mode(1, 15), Plain.S);
        DUE.same("7: serial stays", t.serial(0), 1);
        DUE.noState("7: prepare again", () -> t.prepare(0));
        DUE.noState("7: prepare of an idle one", () -> t.prepare(5));
        DUE.noArgument("7: prepare(8)", () -> t.prepare(8));
        DUE.noArgument("7: prepare(-1)", () -> t.prepare(-1));
        DUE.noState("7: a prepared one asks for a table", () -> t.table(0, 0, Plain.IS));
        DUE.noState("7: a prepared one asks for a range", () -> t.range(0, 1, 1, 1, Plain.S));
        DUE.noState("7: a prepared one escalates", () -> t.escalate(0, 1));
        DUE.noState("7: a prepared one unreads", () -> t.unread(0));
        DUE.noState("7: a prepared one cancels", () -> t.cancel(0));
        DUE.same("7: a prepared one ends", t.end(0), 0);
    }

    private static void prepareGrants() {
        LockTable t = Plain.working(3);
        t.table(0, 0, Plain.SIX);
        t.table(1, 0, Plain.IX);
        t.table(2, 0, Plain.IX);
        DUE.same("7: one lock left", t.prepare(0), 1);
        DUE.text("7: both are granted", Plain.grants(t), "12");
        DUE.same("7: all", t.all(), 3);
    }

    private static void unread() {
        LockTable t = Plain.working(4);
        t.table(0, 0, Plain.SIX);
        t.range(0, 0, 4, 6, Plain.X);
        t.table(0, 1, Plain.U);
        t.table(0, 2, Plain.IX);
        t.range(0, 2, 1, 9, Plain.U);
        t.table(1, 0, Plain.IX);
        t.table(2, 1, Plain.U);
        t.table(3, 2, Plain.IX);
        t.range(3, 2, 9, 9, Plain.X);
        DUE.text("8: all three wait", Plain.line(t), "123");
        DUE.same("8: how many were granted", t.unread(0), 3);
        DUE.text("8: in their order", Plain.grants(t), "123");
        DUE.same("8: it works on", t.state(0), Plain.WORKING);
        DUE.same("8: SIX is IX", t.mode(0, 0), Plain.IX);
        DUE.same("8: U is gone", t.mode(0, 1), Plain.NONE);
        DUE.same("8: IX stays", t.mode(0, 2), Plain.IX);
        DUE.same("8: X range stays", t.right(0, 0, 5), Plain.X);
        DUE.same("8: U range is gone", t.ranges(0, 2), 0);
        DUE.same("8: nothing more to let go", t.unread(0), 0);
        DUE.text("8: nobody granted then", Plain.grants(t), "");
        t.table(1, 1, Plain.X);
        DUE.noState("8: unread of a waiting one", () -> t.unread(1));
        DUE.noState("8: unread of an idle one", () -> t.unread(4));
        DUE.noArgument("8: unread(8)", () -> t.unread(8));
        DUE.noArgument("8: unread(-1)", () -> t.unread(-1));
    }

    private static void end() {
        LockTable t = Plain.working(3);
        t.table(0, 0, Plain.X);
        t.range(0, 0, 1, 1, Plain.X);
        t.table(0, 1, Plain.IX);
        t.range(0, 1, 1, 1, Plain.X);
        t.table(1, 0, Plain.S);
        t.table(2, 0, Plain.S);
        DUE.same("9: both others are granted", t.end(0), 2);
        DUE.text("9: as they came", Plain.grants(t), "12");
        DUE.same("9: idle", t.state(0), Plain.IDLE);
        DUE.same("9: no serial", t.serial(0), Plain.NONE);
        DUE.same("9: no table", t.mode(0, 1), Plain.NONE);
        DUE.same("9: no range", t.ranges(0, 1), 0);
        DUE.same("9: all", t.all(), 2);
        DUE.noState("9: end of an idle one", () -> t.end(0));
        DUE.noArgument("9: end(8)", () -> t.end(8));
        DUE.noArgument("9: end(-1)", () -> t.end(-1));
        DUE.same("9: nobody waits for owner 1", t.end(1), 0);
    }

    private static void endOfOneThatWaits() {
        LockTable t = Plain.working(3);
        t.table(0, 0, Plain.S);
        t.table(1, 0, Plain.X);
        t.table(2, 0, Plain.S);
        DUE.text("9: both wait", Plain.line(t), "12");
        DUE.same("9: its request goes, and the one behind it is granted", t.end(1), 1);
        DUE.text("9: nobody waits", Plain.line(t), "");
        DUE.same("9: all", t.all(), 2);
    }

    private static void stateAndSerial() {
        LockTable t = Plain.working(3);
        t.table(0, 0, Plain.X);
        t.table(1, 1, Plain.X);
        t.table(2, 2, Plain.X);
        t.table(0, 1, Plain.X);
        DUE.same("12: the newer one of the ring is doomed", t.table(1, 0, Plain.X), Plain.VICTIM);
        t.prepare(2);
        DUE.text("12: states", Plain.states(t), "23400000");
        DUE.same("13: of a waiting one", t.serial(0), 1);
        DUE.same("13: of a doomed one", t.serial(1), 2);
        DUE.same("13: of a prepared one", t.serial(2), 3);
        DUE.same("13: of an idle one", t.serial(3), Plain.NONE);
        DUE.same("13: the highest owner", t.serial(7), Plain.NONE);
        DUE.noArgument("12: state(8)", () -> t.state(8));
        DUE.noArgument("12: state(-1)", () -> t.state(-1));
        DUE.noArgument("13: serial(8)", () -> t.serial(8));
        DUE.noArgument("13: serial(-1)", () -> t.serial(-1));
    }
}
