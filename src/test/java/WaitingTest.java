/** Promises 6, 18, 19, 20 and 21, and the rings that promise 3 answers: those that wait. */
public final class WaitingTest {
    private static final Due DUE = new Due();

    public static void main(String[] args) {
        cancel();
        cancelWrong();
        order();
        innerRange();
        waitsBehindRequests();
        wants();
        behind();
        granted();
        ringOfTwo();
        olderTakesTheVictim();
        ringGrantsTheCaller();
        twoRings();
        ringByPlaceInLine();
        innerRequestClosesRing();
        outsidersAreSpared();
        allOfTheRing();
        DUE.finish();
    }

    private static void cancel() {
        LockTable t = Plain.working(4);
        t.table(0, 0, Plain.S);
        t.table(1, 0, Plain.X);
        t.table(2, 0, Plain.S);
        t.table(3, 0, Plain.IS);
        DUE.text("6: three wait", Plain.line(t), "123");
        DUE.same("6: two others are granted", t.cancel(1), 2);
        DUE.text("6: in their order", Plain.grants(t), "23");
        DUE.same("6: it works", t.state(1), Plain.WORKING);
        DUE.same("6: without the lock", t.mode(1, 0), Plain.NONE);
        DUE.same("6: all", t.all(), 3);
        t.table(1, 0, Plain.X);
        DUE.same("6: nobody was behind", t.cancel(1), 0);
    }

    private static void cancelWrong() {
        LockTable t = Plain.working(1);
        DUE.noState("6: one that works", () -> t.cancel(0));
        DUE.noState("6: one that is idle", () -> t.cancel(7));
        DUE.noArgument("6: owner 8", () -> t.cancel(8));
        DUE.noArgument("6: owner -1", () -> t.cancel(-1));
    }

    private static void order() {
        LockTable t = Plain.working(5);
        t.table(0, 0, Plain.IS);
        t.table(1, 0, Plain.IS);
        t.table(4, 0, Plain.IX);
        t.table(2, 0, Plain.X);
        t.table(3, 0, Plain.S);
        DUE.text("18: as they came", Plain.line(t), "23");
        t.table(1, 0, Plain.S);
        DUE.text("18: the inner one first", Plain.line(t), "123");
        t.table(0, 0, Plain.U);
        DUE.text("18: the new inner one behind the inner ones", Plain.line(t), "1023");
        DUE.same("18: no fifth", t.queue(4), Plain.NONE);
        DUE.same("18: queue(-1)", t.queue(-1), Plain.NONE);
        DUE.same("18: the lowest", t.queue(Integer.MIN_VALUE), Plain.NONE);
        DUE.same("18: the highest", t.queue(Integer.MAX_VALUE), Plain.NONE);
        DUE.same("21: S and U go together, X does not", t.end(4), 2);
        DUE.text("21: inner ones before the earlier X", Plain.grants(t), "10");
        DUE.text("18: the others wait on", Plain.line(t), "23");
    }

    private static void innerRange() {
        LockTable t = Plain.working(3);
        for (int owner = 0; owner < 3; owner++) {
            t.table(owner, 0, Plain.IX);
        }
        t.range(0, 0, 1, 9, Plain.S);
        t.range(1, 0, 1, 9, Plain.S);
        t.range(2, 0, 5, 5, Plain.X);
        DUE.same("19: not inner", t.wants(2, 3), 0);
        t.range(0, 0, 1, 9, Plain.X);
        DUE.same("19: the same range is inner", t.wants(0, 3), 1);
        DUE.text("18: so it is first", Plain.line(t), "02");
        t.cancel(0);
        t.range(0, 0, 9, 10, Plain.X);
        DUE.same("19: one that goes beyond it is not", t.wants(0, 3), 0);
        DUE.text("18: so it is last", Plain.line(t), "20");
        t.cancel(0);
        t.table(0, 1, Plain.IX);
        t.table(1, 1, Plain.IX);
        t.range(1, 1, 5, 5, Plain.X);
        t.range(0, 1, 5, 5, Plain.S);
        DUE.same("19: a range of another table makes none inner", t.wants(0, 3), 0);
    }

    private static void waitsBehindRequests() {
        LockTable t = Plain.working(4);
        t.table(0, 0, Plain.IS);
        t.table(1, 0, Plain.X);
        DUE.same("3: not past a request against it", t.table(2, 0, Plain.IS), Plain.WAITS);
        DUE.same("3: an inner one goes before it", t.table(0, 0, Plain.SIX), Plain.GRANTED);
        t.cancel(1);
        t.table(1, 0, Plain.IX);
        DUE.same("3: past a request that goes together with it", t.table(3, 0, Plain.IS), Plain.GRANTED);
    }

    private static void wants() {
        LockTable t = Plain.working(3);
        t.table(0, 9, Plain.IX);
        t.table(1, 9, Plain.S);
        int[] table = {9, 0, Plain.S, 0, 0, 0};
        for (int what = 0; what < 6; what++) {
            DUE.same("19: of a table, " + what, t.wants(1, what), table[what]);
        }
        t.tick(3);
        DUE.same("19: ticks without a limit too", t.wants(1, 5), 3);
        t.table(2, 9, Plain.IS);
        t.range(0, 9, 1, 2, Plain.X);
        t.range(2, 9, 2, 2, Plain.S);
        int[] range = {9, 1, Plain.S, 0, 0, 0};
        for (int what = 0; what < 6; what++) {
            DUE.same("19: of a range, " + what, t.wants(2, what), range[what]);
        }
        t.tick(2);
        DUE.same("19: since it began to wait", t.wants(2, 5), 2);
        DUE.same("19: and the earlier one", t.wants(1, 5), 5);
        t.cancel(1);
        t.table(1, 9, Plain.S);
        DUE.same("19: from 0 again", t.wants(1, 5), 0);
        LockTable joined = Plain.working(2);
        joined.table(0, 0, Plain.S);
        joined.table(1, 0, Plain.IS);
        joined.table(1, 0, Plain.S);
        joined.table(0, 0, Plain.IX);
        DUE.same("19: the joined mode", joined.wants(0, 2), Plain.SIX);
        DUE.same("19: inner", joined.wants(0, 3), 1);
        DUE.same("19: no escalation", joined.wants(0, 4), 0);
        DUE.noArgument("19: what 6", () -> t.wants(1, 6));
        DUE.noArgument("19: what -1", () -> t.wants(1, -1));
        DUE.noArgument("19: owner 8", () -> t.wants(8, 0));
        DUE.noArgument("19: owner -1", () -> t.wants(-1, 0));
        DUE.noState("19: one that works", () -> t.wants(0, 0));
        DUE.noArgument("19: one that works, what 6", () -> t.wants(0, 6));
        DUE.noState("19: one that is idle", () -> t.wants(7, 5));
    }

    private static void behind() {
        LockTable t = Plain.working(6);
        t.table(0, 0, Plain.S);
        t.table(1, 0, Plain.IS);
        t.table(2, 0, Plain.IX);
        t.table(3, 0, Plain.S);
        t.table(4, 0, Plain.X);
        DUE.same("20: behind a lock", t.behind(2), 0b00001);
        DUE.same("20: behind a request alone", t.behind(3), 0b00100);
        DUE.same("20: behind locks and requests", t.behind(4), 0b01111);
        t.table(1, 0, Plain.IX);
        DUE.same("20: IX before IX is not against it", t.behind(2), 0b00001);
        DUE.same("20: the inner one is now before this", t.behind(3), 0b00110);
        DUE.same("20: one that works", t.behind(0), 0);
        DUE.same("20: one that is idle", t.behind(7), 0);
        DUE.noArgument("20: owner 8", () -> t.behind(8));
        DUE.noArgument("20: owner -1", () -> t.behind(-1));
    }

    private static void granted() {
        LockTable t = Plain.working(4);
        t.table(0, 0, Plain.X);
        DUE.same("21: not the one whose call it was", t.granted(0), Plain.NONE);
        t.table(1, 0, Plain.S);
        t.table(2, 0, Plain.S);
        t.end(0);
        DUE.text("21: both", Plain.grants(t), "12");
        DUE.same("21: no third", t.granted(2), Plain.NONE);
        DUE.same("21: granted(-1)", t.granted(-1), Plain.NONE);
        DUE.same("21: the highest", t.granted(Integer.MAX_VALUE), Plain.NONE);
        DUE.noState("21: a call that throws", () -> t.end(0));
        DUE.noArgument("21: another that throws", () -> t.tick(-1));
        DUE.notSupported("21: and one more", () -> t.range(3, 0, 1, 1, Plain.S));
        t.state(0);
        t.join(0, 0);
        t.all();
        DUE.text("21: changes nothing, nor do questions", Plain.grants(t), "12");
        t.limit(0);
        DUE.text("21: limit is no question", Plain.grants(t), "");
        t.table(3, 1, Plain.X);
        t.table(1, 1, Plain.X);
        t.end(3);
        DUE.text("21: one", Plain.grants(t), "1");
        t.begin(3);
        DUE.text("21: begin is no question", Plain.grants(t), "");
        t.table(3, 1, Plain.X);
        t.end(1);
        DUE.text("21: again one", Plain.grants(t), "3");
        t.tick(0);
        DUE.text("21: nor is tick", Plain.grants(t), "");
    }

    private static void ringOfTwo() {
        LockTable t = Plain.working(2);
        t.table(0, 0, Plain.S);
        t.table(1, 0, Plain.S);
        DUE.same("3: the first waits", t.table(0, 0, Plain.X), Plain.WAITS);
        DUE.same("3: the newer one is the victim", t.table(1, 0, Plain.X), Plain.VICTIM);
        DUE.same("3: doomed", t.state(1), Plain.DOOMED);
        DUE.same("3: with its lock", t.mode(1, 0), Plain.S);
        DUE.same("3: without its request", t.all(), 3);
        DUE.same("3: it is behind none", t.behind(1), 0);
        DUE.text("3: the other waits on", Plain.line(t), "0");
        DUE.noState("3: a doomed one asks for nothing", () -> t.table(1, 1, Plain.IS));
        DUE.noState("6: nor cancels", () -> t.cancel(1));
        DUE.noState("7: nor prepares", () -> t.prepare(1));
        DUE.noState("8: nor unreads", () -> t.unread(1));
        DUE.noState("2: nor begins", () -> t.begin(1));
        DUE.same("9: it ends", t.end(1), 1);
        DUE.same("3: X at last", t.mode(0, 0), Plain.X);
    }

    private static void olderTakesTheVictim() {
        LockTable t = new LockTable();
        t.begin(1);
        t.begin(0);
        t.table(0, 0, Plain.S);
        t.table(1, 0, Plain.S);
        t.table(0, 0, Plain.X);
        DUE.same("3: the older one waits, the other is the victim", t.table(1, 0, Plain.X), Plain.WAITS);
        DUE.same("3: by the serial, not the number", t.state(0), Plain.DOOMED);
        DUE.text("3: the line", Plain.line(t), "1");
    }

    private static void ringGrantsTheCaller() {
        LockTable t = Plain.working(3);
        t.table(0, 1, Plain.X);
        t.table(1, 0, Plain.S);
        t.table(2, 0, Plain.X);
        t.table(1, 1, Plain.S);
        DUE.text("3: nobody is in a ring yet", Plain.line(t), "21");
        DUE.same("3: granted when the victim is taken", t.table(0, 0, Plain.IS), Plain.GRANTED);
        DUE.text("3: the victim stood before it in the line", Plain.states(t), "12300000");
        DUE.same("3: it has its lock", t.mode(0, 0), Plain.IS);
        DUE.text("21: its own call is left out", Plain.grants(t), "");
        DUE.text("3: the line", Plain.line(t), "1");
    }

    private static void twoRings() {
        LockTable t = Plain.working(3);
        for (int owner = 0; owner < 3; owner++) {
            t.table(owner, owner, Plain.X);
        }
        t.table(1, 3, Plain.S);
        t.table(2, 3, Plain.S);
        t.table(1, 0, Plain.S);
        t.table(2, 0, Plain.S);
        DUE.same("3: both rings are broken", t.table(0, 3, Plain.X), Plain.WAITS);
        DUE.text("3: both victims", Plain.states(t), "23300000");
        DUE.same("9: still behind one", t.end(1), 0);
        DUE.same("9: and granted at last", t.end(2), 1);
    }

    private static void ringByPlaceInLine() {
        LockTable t = Plain.working(3);
        t.table(0, 1, Plain.X);
        t.table(1, 0, Plain.S);
        t.table(2, 0, Plain.X);
        t.table(0, 0, Plain.IS);
        DUE.same("20: behind a request alone", t.behind(0), 0b100);
        DUE.same("3: closes the ring", t.table(1, 1, Plain.S), Plain.WAITS);
        DUE.text("3: the newest is doomed", Plain.states(t), "12300000");
        DUE.text("21: who was behind its request is granted", Plain.grants(t), "0");
        DUE.same("3: the lock", t.mode(0, 0), Plain.IS);
    }

    private static void innerRequestClosesRing() {
        LockTable t = Plain.working(3);
        t.table(1, 0, Plain.IS);
        t.table(2, 0, Plain.IX);
        t.table(2, 1, Plain.X);
        t.table(0, 0, Plain.IX);
        DUE.same("3: IX goes beside IX", t.mode(0, 0), Plain.IX);
        t.table(0, 1, Plain.IS);
        DUE.same("3: inner, behind both IX", t.table(1, 0, Plain.S), Plain.WAITS);
        DUE.same("20: both", t.behind(1), 0b101);
        DUE.same("3: inner too, and behind the first inner one", t.table(2, 0, Plain.X), Plain.VICTIM);
        DUE.text("3: states", Plain.states(t), "22300000");
    }

    private static void outsidersAreSpared() {
        LockTable t = Plain.working(4);
        t.table(0, 0, Plain.X);
        t.table(0, 2, Plain.X);
        t.table(1, 1, Plain.X);
        t.table(1, 3, Plain.X);
        t.table(2, 2, Plain.S);
        t.table(3, 3, Plain.S);
        t.table(0, 1, Plain.X);
        DUE.same("3: the newest of the ring, not of those behind it", t.table(1, 0, Plain.X), Plain.VICTIM);
        DUE.text("3: the others wait on", Plain.states(t), "23220000");
    }

    private static void allOfTheRing() {
        LockTable t = Plain.working(4);
        t.table(0, 0, Plain.X);
        t.table(1, 1, Plain.X);
        t.table(2, 1, Plain.S);
        t.table(3, 0, Plain.S);
        t.table(0, 1, Plain.X);
        // 2 and 3 stand between 0 and 1 in the line, so each of them is in a ring until it is taken.
        DUE.same("3: one after another", t.table(1, 0, Plain.X), Plain.VICTIM);
        DUE.text("3: all but the oldest", Plain.states(t), "23330000");
    }
}
