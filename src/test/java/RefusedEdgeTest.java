/**
 * The sentence of the Terms on what is REFUSED, which promises 3, 4 and 5 answer with 3: a method for each
 * part of it, on both sides of 256.
 */
public final class RefusedEdgeTest {
    private static final Due DUE = new Due();

    public static void main(String[] args) {
        tableAt256();
        rangeAt256();
        waitingRequestsCount();
        tableThatWouldWait();
        rangeThatWouldWait();
        innerRange();
        innerRangeWithRoom();
        wouldBeTheVictim();
        nothingToMake();
        tableThatItHolds();
        tableThatItHoldsWaits();
        escalationNever();
        escalationThatWaits();
        eighthIsRefused();
        ninthIsNot();
        above256();
        roomByCancel();
        roomByEnd();
        grantedClearedByRefusal();
        wrongCallsWhenFull();
        DUE.finish();
    }

    /**
     * Eight owners and n locks of theirs, at most 256: the tables 0 .. 11 in IS, then ranges in S, eight for
     * each owner on the tables 0 and 1 and four on table 2, with the keys 10, 20, ..
     */
    private static LockTable filled(int n) {
        LockTable t = Plain.working(8);
        for (int i = 0; i < n && i < 96; i++) {
            t.table(i % 8, i / 8, Plain.IS);
        }
        for (int i = 96; i < n; i++) {
            int row = (i - 96) / 8;
            long key = 10L * (row % 8 + 1);
            t.range(i % 8, row / 8, key, key, Plain.S);
        }
        DUE.same("locks to begin with", t.all(), n);
        return t;
    }

    private static void tableAt256() {
        DUE.about("Terms, 3: REFUSED when there are 256 locks: a table");
        LockTable t = filled(254);
        DUE.same("with 254", t.table(0, 15, Plain.IS), Plain.GRANTED);
        DUE.same("with 255", t.table(1, 15, Plain.IS), Plain.GRANTED);
        DUE.same("with 256", t.table(2, 15, Plain.IS), Plain.REFUSED);
        DUE.same("all", t.all(), 256);
        DUE.same("it works", t.state(2), Plain.WORKING);
        DUE.same("it holds it not", t.mode(2, 15), Plain.NONE);
        DUE.same("nobody waits", t.queue(0), Plain.NONE);
        DUE.same("refused again", t.table(2, 15, Plain.IS), Plain.REFUSED);
    }

    private static void rangeAt256() {
        DUE.about("Terms, 4: REFUSED when there are 256 locks: a range");
        LockTable t = filled(254);
        DUE.same("with 254", t.range(0, 3, 1, 1, Plain.S), Plain.GRANTED);
        DUE.same("with 255", t.range(0, 3, 2, 2, Plain.S), Plain.GRANTED);
        DUE.same("with 256", t.range(0, 3, 3, 3, Plain.S), Plain.REFUSED);
        DUE.same("all", t.all(), 256);
        DUE.same("it works", t.state(0), Plain.WORKING);
        DUE.same("it has two", t.ranges(0, 3), 2);
        DUE.same("and not the third", t.right(0, 3, 3), Plain.NONE);
    }

    private static void waitingRequestsCount() {
        DUE.about("Terms: 256 locks and waiting requests together");
        LockTable t = filled(253);
        t.table(0, 15, Plain.X);
        DUE.same("with 254", t.table(1, 15, Plain.X), Plain.WAITS);
        DUE.same("all", t.all(), 255);
        DUE.same("with 255", t.table(2, 15, Plain.X), Plain.WAITS);
        DUE.same("254 locks and two that wait", t.all(), 256);
        DUE.same("a table", t.table(3, 14, Plain.IS), Plain.REFUSED);
        DUE.same("a range", t.range(3, 3, 1, 1, Plain.S), Plain.REFUSED);
    }

    private static void tableThatWouldWait() {
        DUE.about("Terms, 3: A request that would make a lock or wait: wait, for a table");
        LockTable t = filled(255);
        t.table(0, 15, Plain.X);
        DUE.same("behind a lock", t.table(1, 15, Plain.S), Plain.REFUSED);
        DUE.same("it works", t.state(1), Plain.WORKING);
        DUE.same("nobody waits", t.queue(0), Plain.NONE);
        DUE.same("all", t.all(), 256);
    }

    private static void rangeThatWouldWait() {
        DUE.about("Terms, 4: A request that would make a lock or wait: wait, for a range");
        LockTable t = filled(253);
        t.table(0, 3, Plain.IX);
        t.range(0, 3, 1, 9, Plain.X);
        DUE.same("with 254", t.range(1, 3, 5, 5, Plain.S), Plain.WAITS);
        DUE.same("with 255", t.range(2, 3, 5, 5, Plain.S), Plain.WAITS);
        DUE.same("with 256", t.range(3, 3, 5, 5, Plain.S), Plain.REFUSED);
        DUE.same("it works", t.state(3), Plain.WORKING);
        DUE.same("two wait", t.queue(2), Plain.NONE);
    }

    private static void innerRange() {
        DUE.about("Terms, 4: and is not for a table that its owner holds: a range that is inner is none");
        LockTable t = filled(256);
        t.table(0, 2, Plain.IX);
        DUE.same("U in a range in S", t.range(0, 2, 10, 10, Plain.U), Plain.REFUSED);
        DUE.same("X, which would wait", t.range(0, 2, 10, 10, Plain.X), Plain.REFUSED);
        DUE.same("S still", t.right(0, 2, 10), Plain.S);
        DUE.same("all", t.all(), 256);
    }

    private static void innerRangeWithRoom() {
        DUE.about("Terms, 4: a range that is inner, with 255");
        LockTable t = filled(255);
        t.table(0, 2, Plain.IX);
        DUE.same("U in a range in S", t.range(0, 2, 10, 10, Plain.U), Plain.GRANTED);
        DUE.same("a lock more", t.all(), 256);
        LockTable u = filled(255);
        u.table(0, 2, Plain.IX);
        DUE.same("X, which waits", u.range(0, 2, 10, 10, Plain.X), Plain.WAITS);
        DUE.same("a request more", u.all(), 256);
    }

    private static void wouldBeTheVictim() {
        DUE.about("Terms, 3: REFUSED before it waits: no ring comes of it");
        LockTable t = filled(253);
        t.table(0, 14, Plain.X);
        t.table(1, 15, Plain.X);
        t.table(0, 15, Plain.X);
        DUE.same("all", t.all(), 256);
        DUE.same("the one that would close it", t.table(1, 14, Plain.X), Plain.REFUSED);
        DUE.same("works on", t.state(1), Plain.WORKING);
        DUE.same("the other waits", t.state(0), Plain.WAITING);
        LockTable room = filled(252);
        room.table(0, 14, Plain.X);
        room.table(1, 15, Plain.X);
        room.table(0, 15, Plain.X);
        DUE.same("with 255", room.table(1, 14, Plain.X), Plain.VICTIM);
    }

    private static void nothingToMake() {
        DUE.about("Terms, 3, 4: A request that would make a lock or wait: what is granted at once would not");
        LockTable t = filled(256);
        DUE.same("a table that is held in that mode", t.table(0, 0, Plain.IS), Plain.GRANTED);
        DUE.same("a range that a range lock covers", t.range(0, 0, 10, 10, Plain.S), Plain.GRANTED);
        DUE.same("one key beside it", t.range(0, 2, 11, 11, Plain.S), Plain.REFUSED);
        t.table(0, 5, Plain.S);
        DUE.same("a range that the table covers", t.range(0, 5, 1, 9, Plain.S), Plain.GRANTED);
        DUE.same("all", t.all(), 256);
    }

    private static void tableThatItHolds() {
        DUE.about("Terms, 3: and is not for a table that its owner holds");
        LockTable t = filled(256);
        DUE.same("one that it holds", t.table(0, 3, Plain.IX), Plain.GRANTED);
        DUE.same("IX", t.mode(0, 3), Plain.IX);
        DUE.same("one that nobody holds", t.table(0, 15, Plain.IX), Plain.REFUSED);
        DUE.same("all", t.all(), 256);
    }

    private static void tableThatItHoldsWaits() {
        DUE.about("Terms, 3: and is not for a table that its owner holds: it may wait too");
        LockTable t = filled(256);
        t.table(0, 3, Plain.IX);
        DUE.same("S beside IX", t.table(1, 3, Plain.S), Plain.WAITS);
        DUE.same("all", t.all(), 257);
        DUE.same("one more", t.table(2, 3, Plain.S), Plain.WAITS);
        DUE.same("all then", t.all(), 258);
    }

    private static void escalationNever() {
        DUE.about("Terms, 5: (an escalation never is)");
        LockTable t = filled(256);
        DUE.same("with 256", t.escalate(0, 0), Plain.GRANTED);
        DUE.same("eight range locks less", t.all(), 248);
        DUE.same("S", t.mode(0, 0), Plain.S);
    }

    private static void escalationThatWaits() {
        DUE.about("Terms, 5: (an escalation never is), though it waits");
        LockTable t = filled(256);
        t.table(1, 0, Plain.IX);
        DUE.same("with 256", t.escalate(0, 0), Plain.WAITS);
        DUE.same("a request more", t.all(), 257);
        DUE.same("a ninth range, with 257", t.range(2, 0, 90, 90, Plain.S), Plain.WAITS);
        DUE.same("is one too", t.wants(2, 4), 1);
        DUE.same("a request more", t.all(), 258);
    }

    private static void eighthIsRefused() {
        DUE.about("Terms, 4: an escalation never is; an eighth range is none");
        LockTable t = filled(249);
        Plain.lockTens(t, 0, 3, 7, Plain.S);
        DUE.same("all", t.all(), 256);
        DUE.same("the eighth", t.range(0, 3, 80, 80, Plain.S), Plain.REFUSED);
        DUE.same("seven", t.ranges(0, 3), 7);
        DUE.same("the table", t.mode(0, 3), Plain.IS);
    }

    private static void ninthIsNot() {
        DUE.about("Terms, 4: an escalation never is; a ninth range is one");
        LockTable t = filled(248);
        Plain.lockTens(t, 0, 3, 8, Plain.S);
        DUE.same("all", t.all(), 256);
        DUE.same("the ninth", t.range(0, 3, 90, 90, Plain.S), Plain.GRANTED);
        DUE.same("none", t.ranges(0, 3), 0);
        DUE.same("the table", t.mode(0, 3), Plain.S);
        DUE.same("all then", t.all(), 248);
    }

    private static void above256() {
        DUE.about("Terms, 3, 4: REFUSED when there are 256, and when there are more");
        LockTable t = filled(256);
        t.table(0, 3, Plain.IX);
        t.table(1, 3, Plain.S);
        DUE.same("all", t.all(), 257);
        DUE.same("a table", t.table(2, 15, Plain.IS), Plain.REFUSED);
        DUE.same("a range", t.range(2, 4, 1, 1, Plain.S), Plain.REFUSED);
        DUE.same("all then", t.all(), 257);
    }

    private static void roomByCancel() {
        DUE.about("Terms: 256 together, less one by cancel");
        LockTable t = filled(254);
        t.table(0, 15, Plain.X);
        t.table(1, 15, Plain.X);
        DUE.same("full", t.table(2, 14, Plain.IS), Plain.REFUSED);
        t.cancel(1);
        DUE.same("room for one", t.table(2, 14, Plain.IS), Plain.GRANTED);
        DUE.same("full again", t.table(1, 15, Plain.X), Plain.REFUSED);
    }

    private static void roomByEnd() {
        DUE.about("Terms: 256 together, less those of one that ends");
        LockTable t = filled(256);
        DUE.same("nobody waits", t.end(7), 0);
        DUE.same("32 locks less", t.all(), 224);
        for (int i = 0; i < 32; i++) {
            DUE.same("room for " + i, t.range(i / 8, 3, 10 * i, 10 * i, Plain.S), Plain.GRANTED);
        }
        DUE.same("full again", t.range(4, 3, 1, 1, Plain.S), Plain.REFUSED);
    }

    private static void grantedClearedByRefusal() {
        DUE.about("21: the latest call that is no question and threw nothing: a refused one is such a call");
        LockTable t = filled(256);
        t.table(0, 3, Plain.IX);
        t.table(1, 3, Plain.S);
        t.table(2, 3, Plain.IX);
        DUE.same("two wait", t.all(), 258);
        DUE.same("one is taken back, the other granted", t.cancel(1), 1);
        DUE.same("that one", t.granted(0), 2);
        DUE.same("all", t.all(), 256);
        DUE.same("refused", t.table(3, 15, Plain.IS), Plain.REFUSED);
        DUE.same("nobody was granted by that", t.granted(0), Plain.NONE);
    }

    private static void wrongCallsWhenFull() {
        DUE.about("3, 4, 5: a wrong call throws, though there are 256");
        LockTable t = filled(256);
        DUE.noArgument("no such table", () -> t.table(0, 16, Plain.IS));
        DUE.noArgument("no such mode", () -> t.table(0, 15, 6));
        DUE.noArgument("low above high", () -> t.range(0, 0, 2, 1, Plain.S));
        DUE.notSupported("a table that is not held", () -> t.range(0, 15, 1, 1, Plain.S));
        DUE.notSupported("X with IS", () -> t.range(0, 3, 1, 1, Plain.X));
        DUE.notSupported("no range lock", () -> t.escalate(0, 3));
        t.prepare(0);
        DUE.noState("one that does not work", () -> t.table(0, 15, Plain.IS));
        DUE.same("its 32 locks in IS and S went", t.all(), 224);
    }
}
