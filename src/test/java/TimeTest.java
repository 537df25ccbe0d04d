/** Promises 10 and 11: the time limit and the ticks. */
public final class TimeTest {
    private static final Due DUE = new Due();

    public static void main(String[] args) {
        limitAndTick();
        earlierTicksCount();
        firstCameFirst();
        firstInLineIsNotFirst();
        grantsInTick();
        manyTicks();
        wrong();
        DUE.finish();
    }

    private static LockTable oneWaits() {
        LockTable t = Plain.working(2);
        t.table(0, 0, Plain.X);
        t.table(1, 0, Plain.X);
        return t;
    }

    private static void limitAndTick() {
        LockTable t = oneWaits();
        t.limit(3);
        DUE.same("11: two ticks", t.tick(2), 0);
        DUE.same("11: none", t.tick(0), 0);
        DUE.same("19: two are waited", t.wants(1, 5), 2);
        DUE.same("11: the third", t.tick(1), 1);
        DUE.same("11: it works", t.state(1), Plain.WORKING);
        DUE.same("11: its request is gone", t.all(), 1);
        DUE.same("11: nobody waits", t.tick(1000), 0);
        t.limit(0);
        t.table(1, 0, Plain.S);
        DUE.same("10: no limit", t.tick(1000), 0);
        DUE.same("10: it waits", t.wants(1, 5), 1000);
    }

    private static void earlierTicksCount() {
        LockTable t = oneWaits();
        t.tick(5);
        t.limit(5);
        DUE.same("10: the limit itself takes none back", t.state(1), Plain.WAITING);
        DUE.same("11: nor do no ticks", t.tick(0), 0);
        DUE.same("11: it still waits", t.state(1), Plain.WAITING);
        DUE.same("10: ticks before the limit count", t.tick(1), 1);
        LockTable u = oneWaits();
        u.tick(5);
        u.limit(7);
        DUE.same("11: not yet", u.tick(1), 0);
        DUE.same("11: now", u.tick(1), 1);
    }

    private static void firstCameFirst() {
        LockTable t = Plain.working(3);
        t.table(2, 0, Plain.IX);
        t.table(0, 0, Plain.IS);
        t.table(1, 0, Plain.X);
        t.table(0, 0, Plain.S);
        DUE.text("18: the inner one stands first", Plain.line(t), "01");
        t.limit(1);
        DUE.same("11: both are taken back", t.tick(1), 2);
        DUE.text("21: none was granted", Plain.grants(t), "");
        LockTable u = Plain.working(4);
        u.table(0, 0, Plain.IX);
        u.table(1, 0, Plain.X);
        u.table(2, 0, Plain.IX);
        u.limit(1);
        DUE.same("11: the first alone, for the second is granted then", u.tick(1), 1);
        DUE.text("11: states", Plain.states(u), "11110000");
        DUE.same("11: the lock", u.mode(2, 0), Plain.IX);
        DUE.text("21: granted", Plain.grants(u), "2");
    }

    private static void firstInLineIsNotFirst() {
        LockTable t = Plain.working(5);
        t.table(3, 0, Plain.IX);
        t.table(1, 0, Plain.IS);
        t.table(0, 0, Plain.X);
        t.table(2, 0, Plain.IX);
        t.table(1, 0, Plain.S);
        t.cancel(0);
        // 2 came first and is behind 1 alone, which stands before it in the line.
        DUE.text("18: the line", Plain.line(t), "12");
        t.limit(1);
        DUE.same("11: it is taken back before 1 is", t.tick(1), 2);
        DUE.same("11: so it gets nothing", t.mode(2, 0), Plain.NONE);
    }

    private static void grantsInTick() {
        LockTable t = Plain.working(6);
        t.table(0, 0, Plain.IS);
        t.table(0, 1, Plain.IS);
        t.table(1, 0, Plain.X);
        t.tick(1);
        t.table(2, 1, Plain.X);
        t.tick(1);
        t.table(3, 1, Plain.IS);
        t.table(4, 0, Plain.IS);
        t.limit(4);
        DUE.same("11: one in each of two ticks", t.tick(3), 2);
        DUE.text("21: those of all ticks, in their order", Plain.grants(t), "43");
        DUE.text("11: states", Plain.states(t), "11111100");
        t.limit(1);
        t.table(5, 0, Plain.X);
        DUE.same("11: more ticks than needed", t.tick(1000), 1);
        DUE.same("11: one that is taken back holds nothing", t.mode(5, 0), Plain.NONE);
    }

    private static void manyTicks() {
        LockTable t = oneWaits();
        t.limit(1000);
        DUE.same("11: 999", t.tick(999), 0);
        DUE.same("11: 1000", t.tick(1000), 1);
    }

    private static void wrong() {
        LockTable t = oneWaits();
        t.limit(2);
        DUE.noArgument("10: -1", () -> t.limit(-1));
        DUE.noArgument("10: 1001", () -> t.limit(1001));
        DUE.noArgument("10: the lowest", () -> t.limit(Integer.MIN_VALUE));
        DUE.noArgument("11: -1", () -> t.tick(-1));
        DUE.noArgument("11: 1001", () -> t.tick(1001));
        DUE.noArgument("11: the highest", () -> t.tick(Integer.MAX_VALUE));
        DUE.same("11: no time has passed", t.wants(1, 5), 0);
        DUE.same("10: the limit is as before", t.tick(1) + 10 * t.tick(1), 10);
    }
}
