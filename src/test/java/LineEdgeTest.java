/** The boundaries that the document's Terms name for requests that wait: inner ones, the order, rings. */
public final class LineEdgeTest {
    private static final Due DUE = new Due();

    public static void main(String[] args) {
        innerTable();
        innerRange();
        innerRangeOfItsOwn();
        innerRangeByOneLock();
        orderOfBothSorts();
        orderWithoutOneSort();
        onlyRequestsBeforeIt();
        newOneIsLastOfItsSort();
        lookedAtInTheirOrder();
        firstGrantedKeepsLaterOut();
        lookedAtPastThoseThatStay();
        ownLocksAreNoRing();
        chainIsNoRing();
        ringOfEight();
        ringOfEightWithAnotherVictim();
        ringOfThree();
        greatestSerialIsOfTheLatestBegin();
        ringOfRanges();
        rangesBesideEachOtherAreNoRing();
        asLongAsItIsBehindItself();
        noLongerThanItWaits();
        onlyThoseInTheRing();
        doomedHoldsItsLocks();
        requestOfTheVictimGoes();
        preparedEndsAChain();
        DUE.finish();
    }

    private static void innerTable() {
        DUE.about("Terms: INNER when it is for a table that its owner holds");
        LockTable t = Plain.working(3);
        t.table(0, 3, Plain.IX);
        t.table(1, 3, Plain.IS);
        t.table(2, 2, Plain.IS);
        t.table(2, 4, Plain.IS);
        t.table(1, 3, Plain.S);
        t.table(2, 3, Plain.S);
        DUE.same("one that holds it", t.wants(1, 3), 1);
        DUE.same("one that holds the tables beside it", t.wants(2, 3), 0);
    }

    /** Owners 0 and 1 hold table 0 in IX; 1 has all keys of it in S, so that nobody else gets X. */
    private static LockTable blocked() {
        LockTable t = Plain.working(2);
        t.table(0, 0, Plain.IX);
        t.table(1, 0, Plain.IX);
        t.range(1, 0, Long.MIN_VALUE, Long.MAX_VALUE, Plain.S);
        return t;
    }

    private static void innerRange() {
        DUE.about("Terms: or for a range that lies in one that its owner has a lock on");
        for (long low = 0; low <= 8; low++) {
            for (long high = low; high <= 8; high++) {
                LockTable t = Plain.working(2);
                t.table(0, 0, Plain.IX);
                t.table(1, 0, Plain.IX);
                t.range(0, 0, 3, 5, Plain.S);
                t.range(1, 0, 0, 8, Plain.S);
                DUE.same("it waits", t.range(0, 0, low, high, Plain.X), Plain.WAITS);
                boolean in = low >= 3 && high <= 5;
                DUE.same(low + " .. " + high + " in 3 .. 5", t.wants(0, 3), in ? 1 : 0);
            }
        }
    }

    private static void innerRangeOfItsOwn() {
        DUE.about("Terms: a range that lies in one that its owner has a lock on: that owner, that table");
        LockTable t = blocked();
        t.range(0, 0, 5, 5, Plain.X);
        DUE.same("the other owner's", t.wants(0, 3), 0);
        t.cancel(0);
        t.table(0, 1, Plain.IX);
        t.range(0, 1, 1, 9, Plain.S);
        t.range(0, 0, 5, 5, Plain.X);
        DUE.same("on the other table", t.wants(0, 3), 0);
        t.cancel(0);
        t.range(0, 0, 5, 5, Plain.S);
        t.range(0, 0, 5, 5, Plain.X);
        DUE.same("its own on the table", t.wants(0, 3), 1);
    }

    private static void innerRangeByOneLock() {
        DUE.about("Terms: a range that lies in one that its owner has a lock on: in one");
        LockTable t = blocked();
        t.range(0, 0, 1, 5, Plain.S);
        t.range(0, 0, 6, 9, Plain.S);
        t.range(0, 0, 5, 6, Plain.X);
        DUE.same("partly in each of two", t.wants(0, 3), 0);
        t.cancel(0);
        t.range(0, 0, 6, 6, Plain.X);
        DUE.same("in the second", t.wants(0, 3), 1);
    }

    private static void orderOfBothSorts() {
        DUE.about("Terms: in ORDER: inner ones first, then the others, both as they came");
        LockTable t = Plain.working(7);
        t.table(0, 0, Plain.IX);
        t.table(4, 0, Plain.IS);
        t.table(5, 0, Plain.IS);
        t.table(6, 0, Plain.IS);
        t.table(3, 0, Plain.S);
        DUE.text("one", Plain.line(t), "3");
        t.table(2, 0, Plain.S);
        DUE.text("another behind it", Plain.line(t), "32");
        t.table(5, 0, Plain.S);
        DUE.text("an inner one before both", Plain.line(t), "532");
        t.table(4, 0, Plain.S);
        DUE.text("an inner one behind the inner one", Plain.line(t), "5432");
        t.table(1, 0, Plain.S);
        DUE.text("another at the end", Plain.line(t), "54321");
        t.table(6, 0, Plain.S);
        DUE.text("the last inner one", Plain.line(t), "546321");
        t.cancel(4);
        t.table(4, 0, Plain.S);
        DUE.text("one that came anew", Plain.line(t), "564321");
    }

    private static void orderWithoutOneSort() {
        DUE.about("Terms: in ORDER, when there is one sort alone");
        LockTable inner = Plain.working(4);
        for (int owner = 0; owner < 4; owner++) {
            inner.table(owner, 0, owner == 0 ? Plain.IX : Plain.IS);
        }
        inner.table(2, 0, Plain.S);
        inner.table(1, 0, Plain.S);
        inner.table(3, 0, Plain.S);
        DUE.text("inner ones", Plain.line(inner), "213");
        LockTable other = Plain.working(4);
        other.table(0, 0, Plain.X);
        other.table(2, 0, Plain.S);
        other.table(1, 0, Plain.X);
        other.table(3, 0, Plain.IS);
        DUE.text("others", Plain.line(other), "213");
    }

    private static void onlyRequestsBeforeIt() {
        DUE.about("Terms: can be granted when no request of another owner that waits before it in the order");
        LockTable t = Plain.working(4);
        t.table(0, 0, Plain.IS);
        t.table(1, 0, Plain.IX);
        t.table(2, 0, Plain.S);
        DUE.same("against the one that waits", t.table(3, 0, Plain.IX), Plain.WAITS);
        t.cancel(3);
        DUE.same("together with it", t.table(3, 0, Plain.IS), Plain.GRANTED);
        DUE.same("against it, but inner and so before it", t.table(0, 0, Plain.IX), Plain.GRANTED);
    }

    private static void newOneIsLastOfItsSort() {
        DUE.about("Terms: a new one is the last of its sort");
        LockTable t = Plain.working(4);
        t.table(0, 0, Plain.IX);
        t.table(1, 0, Plain.IS);
        t.table(2, 0, Plain.IS);
        t.table(1, 0, Plain.S);
        DUE.same("an inner one behind an inner one against it", t.table(2, 0, Plain.IX), Plain.WAITS);
        DUE.same("behind that alone", t.behind(2), 0b010);
        DUE.same("another behind the same", t.table(3, 0, Plain.IX), Plain.WAITS);
        DUE.same("behind that alone, too", t.behind(3), 0b010);
    }

    private static void lookedAtInTheirOrder() {
        DUE.about("Terms: all requests that wait are looked at in their order");
        LockTable t = Plain.working(4);
        t.table(0, 0, Plain.IX);
        t.table(3, 0, Plain.IS);
        t.table(2, 0, Plain.S);
        t.table(1, 0, Plain.S);
        t.table(3, 0, Plain.S);
        DUE.same("all three", t.end(0), 3);
        DUE.text("the inner one first, then as they came", Plain.grants(t), "321");
    }

    private static void firstGrantedKeepsLaterOut() {
        DUE.about("Terms: each that can be granted then is");
        LockTable t = Plain.working(4);
        t.table(0, 0, Plain.X);
        t.table(1, 0, Plain.X);
        t.table(2, 0, Plain.X);
        DUE.same("the first alone", t.end(0), 1);
        DUE.text("X", Plain.grants(t), "1");
        DUE.text("the second waits on", Plain.line(t), "2");
        DUE.same("behind the lock that came of it", t.behind(2), 0b010);
    }

    private static void lookedAtPastThoseThatStay() {
        DUE.about("Terms: all requests that wait are looked at, and each that can be granted then is");
        LockTable t = Plain.working(7);
        t.table(0, 0, Plain.X);
        t.table(0, 1, Plain.X);
        t.table(6, 2, Plain.X);
        t.table(1, 2, Plain.S);
        t.table(2, 0, Plain.S);
        t.table(3, 0, Plain.X);
        t.table(4, 0, Plain.S);
        t.table(5, 1, Plain.S);
        DUE.same("two of five", t.end(0), 2);
        DUE.text("past the first, the third and the fourth", Plain.grants(t), "25");
        DUE.text("who waits on", Plain.line(t), "134");
    }

    private static void ownLocksAreNoRing() {
        DUE.about("Terms: behind itself (by way of others)");
        LockTable t = Plain.working(2);
        t.table(0, 0, Plain.S);
        DUE.same("its own lock", t.table(0, 0, Plain.X), Plain.GRANTED);
        t.table(1, 1, Plain.S);
        t.table(0, 1, Plain.S);
        DUE.same("one that works", t.table(1, 1, Plain.X), Plain.WAITS);
        DUE.text("nobody is doomed", Plain.states(t), "12000000");
    }

    /** Each owner holds the table with its number in X, and all but owner 7 wait for the next one's. */
    private static LockTable chain(int[] begins) {
        LockTable t = new LockTable();
        for (int owner : begins) {
            t.begin(owner);
        }
        for (int owner = 0; owner < 8; owner++) {
            t.table(owner, owner, Plain.X);
        }
        for (int owner = 0; owner < 7; owner++) {
            DUE.same("owner " + owner, t.table(owner, owner + 1, Plain.S), Plain.WAITS);
        }
        return t;
    }

    private static void chainIsNoRing() {
        DUE.about("Terms: when one begins to wait and is behind itself; a chain of eight is not");
        LockTable t = chain(new int[] {0, 1, 2, 3, 4, 5, 6, 7});
        DUE.text("seven wait", Plain.states(t), "22222221");
        DUE.same("the last one asks for more", t.table(7, 8, Plain.X), Plain.GRANTED);
        DUE.text("as before", Plain.states(t), "22222221");
        DUE.text("the line", Plain.line(t), "0123456");
    }

    private static void ringOfEight() {
        DUE.about("Terms: the RING is all owners that it is behind, and that are behind it so: eight");
        LockTable t = chain(new int[] {0, 1, 2, 3, 4, 5, 6, 7});
        DUE.same("the newest closes it", t.table(7, 0, Plain.S), Plain.VICTIM);
        DUE.text("and is doomed", Plain.states(t), "22222223");
        DUE.same("the one before it is granted at the end", t.end(7), 1);
        DUE.text("that one", Plain.grants(t), "6");
    }

    private static void ringOfEightWithAnotherVictim() {
        DUE.about("Terms: its VICTIM, the one of them with the greatest serial");
        LockTable t = chain(new int[] {7, 0, 1, 2, 4, 5, 6, 3});
        DUE.same("the oldest closes it", t.table(7, 0, Plain.S), Plain.WAITS);
        DUE.text("the newest is doomed", Plain.states(t), "22232222");
        LockTable u = chain(new int[] {0, 1, 2, 3, 4, 5, 7, 6});
        u.table(7, 0, Plain.S);
        DUE.text("by one", Plain.states(u), "22222232");
    }

    /** A ring of three, closed by each owner in turn: the one that closes it is behind itself by way of two. */
    private static void ringOfThree() {
        DUE.about("Terms: behind itself, by way of others");
        for (int last = 0; last < 8; last++) {
            int[] ring = {last, (last + 3) % 8, (last + 6) % 8};
            LockTable t = new LockTable();
            for (int owner : ring) {
                t.begin(owner);
                t.table(owner, owner, Plain.X);
            }
            t.table(ring[1], ring[2], Plain.S);
            t.table(ring[2], ring[0], Plain.S);
            DUE.same(last + " closes it", t.table(last, ring[1], Plain.S), Plain.WAITS);
            DUE.same("the oldest waits", t.state(ring[0]), Plain.WAITING);
            DUE.same("the next waits", t.state(ring[1]), Plain.WAITING);
            DUE.same("the newest is the victim", t.state(ring[2]), Plain.DOOMED);
        }
    }

    private static void greatestSerialIsOfTheLatestBegin() {
        DUE.about("Terms: the greatest serial, of its present work");
        LockTable t = Plain.working(2);
        t.end(0);
        t.begin(0);
        t.table(0, 0, Plain.S);
        t.table(1, 0, Plain.S);
        t.table(0, 0, Plain.X);
        DUE.same("the other closes the ring", t.table(1, 0, Plain.X), Plain.WAITS);
        DUE.text("who began anew is the victim", Plain.states(t), "32000000");
    }

    /** Both hold table 0 in IX, and have a lock in S from the low key to 5 and from 5 to the high key. */
    private static LockTable readers(long low, long high) {
        LockTable t = Plain.working(2);
        t.table(0, 0, Plain.IX);
        t.table(1, 0, Plain.IX);
        t.range(0, 0, low, 5, Plain.S);
        t.range(1, 0, high == 5 ? 5 : 6, high, Plain.S);
        return t;
    }

    private static void ringOfRanges() {
        DUE.about("Terms: behind itself, by locks on ranges that have one key in common");
        LockTable t = readers(1, 5);
        DUE.same("the older one", t.range(0, 0, 5, 5, Plain.X), Plain.WAITS);
        DUE.same("the newer one", t.range(1, 0, 5, 5, Plain.X), Plain.VICTIM);
        DUE.same("its lock stays", t.right(1, 0, 5), Plain.S);
        DUE.text("the other waits on", Plain.line(t), "0");
    }

    private static void rangesBesideEachOtherAreNoRing() {
        DUE.about("Terms: behind itself, not by locks on ranges that have no key in common");
        LockTable t = readers(1, 9);
        DUE.same("the older one", t.range(0, 0, 5, 5, Plain.X), Plain.GRANTED);
        DUE.same("the newer one", t.range(1, 0, 6, 6, Plain.X), Plain.GRANTED);
        DUE.same("the older one, one key further", t.range(0, 0, 5, 6, Plain.X), Plain.WAITS);
        DUE.text("nobody is doomed", Plain.states(t), "21000000");
    }

    private static void asLongAsItIsBehindItself() {
        DUE.about("Terms: as long as it waits and is behind itself");
        for (int readers = 1; readers <= 7; readers++) {
            LockTable t = Plain.working(8);
            t.table(0, 0, Plain.X);
            for (int owner = 1; owner <= readers; owner++) {
                t.table(owner, 1, Plain.S);
                t.table(owner, 0, Plain.S);
            }
            DUE.same(readers + " rings", t.table(0, 1, Plain.X), Plain.WAITS);
            DUE.text("all of them", Plain.states(t), "2" + "3".repeat(readers) + "1".repeat(7 - readers));
            for (int owner = 1; owner <= readers; owner++) {
                DUE.same("at the end of " + owner, t.end(owner), owner == readers ? 1 : 0);
            }
        }
    }

    private static void noLongerThanItWaits() {
        DUE.about("Terms: as long as it waits: the victim that it is itself ends it");
        LockTable t = new LockTable();
        t.begin(1);
        t.begin(2);
        t.begin(0);
        t.table(0, 0, Plain.X);
        for (int owner = 1; owner <= 2; owner++) {
            t.table(owner, 1, Plain.S);
            t.table(owner, 0, Plain.S);
        }
        DUE.same("the newest of both rings", t.table(0, 1, Plain.X), Plain.VICTIM);
        DUE.text("the others wait on", Plain.states(t), "32200000");
    }

    private static void onlyThoseInTheRing() {
        DUE.about("Terms: the RING is all owners that it is behind, and that are behind it so: both");
        LockTable t = Plain.working(6);
        t.table(0, 0, Plain.X);
        t.table(1, 1, Plain.X);
        t.table(2, 2, Plain.X);
        t.table(3, 3, Plain.X);
        t.table(5, 5, Plain.X);
        t.table(4, 0, Plain.S);
        t.table(1, 3, Plain.S);
        t.table(3, 5, Plain.S);
        t.table(2, 1, Plain.S);
        DUE.text("a chain so far", Plain.states(t), "12222100");
        DUE.same("0 is behind 2, 1, 3 and 5", t.table(0, 2, Plain.X), Plain.WAITS);
        DUE.text("and none of them behind it", Plain.states(t), "22222100");
        DUE.same("5 closes a ring", t.table(5, 2, Plain.IS), Plain.VICTIM);
        DUE.text("4 and 0 are only behind it", Plain.states(t), "22222300");
    }

    private static void doomedHoldsItsLocks() {
        DUE.about("Terms: DOOMED (it holds its locks till end())");
        LockTable t = Plain.working(3);
        t.table(0, 0, Plain.X);
        t.table(1, 1, Plain.X);
        t.table(1, 2, Plain.IX);
        t.range(1, 2, 1, 1, Plain.X);
        t.table(0, 1, Plain.S);
        DUE.same("the victim", t.table(1, 0, Plain.S), Plain.VICTIM);
        DUE.same("X", t.mode(1, 1), Plain.X);
        DUE.same("IX", t.mode(1, 2), Plain.IX);
        DUE.same("the range", t.ranges(1, 2), 1);
        DUE.same("who waits for it waits on", t.state(0), Plain.WAITING);
        DUE.same("behind it", t.behind(0), 0b010);
        DUE.same("others wait for it too", t.table(2, 1, Plain.IS), Plain.WAITS);
        DUE.same("till its end", t.end(1), 2);
        DUE.same("nothing is left", t.all(), 3);
    }

    private static void requestOfTheVictimGoes() {
        DUE.about("Terms: its request is taken back");
        LockTable t = Plain.working(4);
        t.table(1, 0, Plain.S);
        t.table(2, 1, Plain.X);
        t.table(2, 0, Plain.X);
        t.table(3, 0, Plain.S);
        DUE.text("two wait", Plain.line(t), "23");
        DUE.same("the older one closes the ring", t.table(1, 1, Plain.S), Plain.WAITS);
        DUE.text("the victim's request is gone", Plain.line(t), "1");
        DUE.text("who was behind it is granted", Plain.grants(t), "3");
        DUE.text("states", Plain.states(t), "12310000");
        DUE.same("three locks and a request", t.all(), 4);
    }

    private static void preparedEndsAChain() {
        DUE.about("Terms: by way of others: of those that wait alone");
        LockTable t = Plain.working(2);
        t.table(0, 0, Plain.X);
        t.table(1, 1, Plain.X);
        t.prepare(1);
        DUE.same("behind one that is prepared", t.table(0, 1, Plain.S), Plain.WAITS);
        DUE.text("no ring", Plain.states(t), "24000000");
        DUE.same("granted at its end", t.end(1), 1);
    }
}
