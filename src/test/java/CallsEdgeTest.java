/** The boundaries that promises 1 to 11 name beside their exceptions: a method for each sentence. */
public final class CallsEdgeTest {
    private static final Due DUE = new Due();

    public static void main(String[] args) {
        newOwnersAreIdle();
        newHasNoLimit();
        beginAnswersTheSerial();
        answersOfTable();
        answersOfRange();
        answersOfEscalate();
        cancelMakesItWork();
        cancelCountsOthers();
        cancelByPlace();
        prepareTables();
        prepareRanges();
        prepareCounts();
        prepareLooksAtAll();
        unreadTables();
        unreadRanges();
        unreadCountsOthers();
        endOfEachState();
        endTakesLocksOfThatOwner();
        endCountsOthers();
        limitOfNone();
        limitOfOne();
        limitOfThousand();
        limitFromNowOn();
        ticksBeforeCount();
        limitTakesNoneBackItself();
        tickOfNone();
        tickOfOneAndOfThousand();
        soManyTicksOrMore();
        sinceTheyBeganToWait();
        sinceTheyBeganToWaitAnew();
        takenBackAsByCancel();
        theOneThatCameFirst();
        theOneThatCameFirstNotInLine();
        asLongAsThereIsOne();
        inEachTick();
        howManyInAll();
        DUE.finish();
    }

    private static void newOwnersAreIdle() {
        DUE.about("1: All owners are idle");
        DUE.text("states", Plain.states(new LockTable()), "00000000");
        LockTable t = new LockTable();
        for (int owner = 7; owner >= 0; owner--) {
            int which = owner;
            DUE.noState("end(" + owner + ")", () -> t.end(which));
            DUE.same("begin(" + owner + ")", t.begin(owner), 8 - owner);
        }
    }

    private static void newHasNoLimit() {
        DUE.about("1: no time limit");
        LockTable t = oneWaits();
        DUE.same("1000 ticks", t.tick(1000), 0);
        DUE.same("and 1000 more", t.tick(1000), 0);
        DUE.same("it waits", t.wants(1, 5), 2000);
    }

    private static void beginAnswersTheSerial() {
        DUE.about("2: An owner works: its serial");
        LockTable t = new LockTable();
        t.begin(5);
        int serial = t.begin(2);
        DUE.same("the second", serial, 2);
        DUE.same("as asked for", t.serial(2), serial);
        DUE.text("those two work", Plain.states(t), "00100100");
        DUE.same("with no locks", t.all(), 0);
    }

    private static void answersOfTable() {
        DUE.about("3: 0 granted, 1 the owner waits, 2 it was the victim of a ring");
        LockTable t = Plain.working(2);
        DUE.same("granted", t.table(0, 0, Plain.X), 0);
        t.table(1, 1, Plain.X);
        DUE.same("waits", t.table(0, 1, Plain.X), 1);
        DUE.same("victim", t.table(1, 0, Plain.X), 2);
        DUE.text("states", Plain.states(t), "23000000");
    }

    private static void answersOfRange() {
        DUE.about("4: answers as table");
        LockTable t = Plain.working(2);
        t.table(0, 0, Plain.IX);
        t.table(1, 0, Plain.IX);
        DUE.same("granted", t.range(0, 0, 1, 1, Plain.X), 0);
        t.range(1, 0, 2, 2, Plain.X);
        DUE.same("waits", t.range(0, 0, 2, 2, Plain.S), 1);
        DUE.same("victim", t.range(1, 0, 1, 1, Plain.S), 2);
        DUE.text("states", Plain.states(t), "23000000");
    }

    private static void answersOfEscalate() {
        DUE.about("5: answers as table");
        LockTable t = Plain.working(2);
        t.table(0, 0, Plain.IX);
        t.range(0, 0, 1, 1, Plain.X);
        t.table(1, 0, Plain.IX);
        t.range(1, 0, 2, 2, Plain.X);
        t.table(0, 1, Plain.IS);
        t.range(0, 1, 1, 1, Plain.S);
        DUE.same("granted", t.escalate(0, 1), 0);
        DUE.same("waits", t.escalate(0, 0), 1);
        DUE.same("victim", t.escalate(1, 0), 2);
        DUE.text("states", Plain.states(t), "23000000");
    }

    /** Owner 0 holds table 0 in X, and 1 waits for it. */
    private static LockTable oneWaits() {
        LockTable t = Plain.working(2);
        t.table(0, 0, Plain.X);
        t.table(1, 0, Plain.X);
        return t;
    }

    private static void cancelMakesItWork() {
        DUE.about("6: An owner's request is taken back, and it works");
        LockTable t = oneWaits();
        DUE.same("nobody was behind it", t.cancel(1), 0);
        DUE.text("both work", Plain.states(t), "11000000");
        DUE.same("no request", t.all(), 1);
        DUE.same("nobody waits", t.queue(0), Plain.NONE);
        DUE.same("it has no lock by it", t.mode(1, 0), Plain.NONE);
        DUE.noState("it does not wait any more", () -> t.cancel(1));
        DUE.same("it asks for something else", t.table(1, 1, Plain.X), Plain.GRANTED);
    }

    private static void cancelCountsOthers() {
        DUE.about("6: how many others were granted by that");
        for (int others = 0; others <= 6; others++) {
            LockTable t = Plain.working(8);
            t.table(0, 0, Plain.S);
            t.table(1, 0, Plain.X);
            for (int owner = 2; owner < 2 + others; owner++) {
                t.table(owner, 0, Plain.S);
            }
            DUE.same(others + " behind it", t.cancel(1), others);
            DUE.text("those", Plain.grants(t), "234567".substring(0, others));
        }
    }

    private static void cancelByPlace() {
        DUE.about("6: An owner's request is taken back: that owner's");
        String[] left = {"", "23", "13", "12"};
        for (int owner = 1; owner <= 3; owner++) {
            LockTable t = Plain.working(4);
            t.table(0, 0, Plain.X);
            t.table(1, 0, Plain.X);
            t.table(2, 0, Plain.X);
            t.table(3, 0, Plain.X);
            t.cancel(owner);
            DUE.text("who waits on", Plain.line(t), left[owner]);
        }
    }

    private static void prepareTables() {
        DUE.about("7: its locks in IS, S and U go, SIX becomes IX: how many locks it has then");
        int[] left = {Plain.NONE, Plain.IX, Plain.NONE, Plain.IX, Plain.NONE, Plain.X};
        for (int mode = Plain.IS; mode <= Plain.X; mode++) {
            LockTable t = Plain.working(1);
            t.table(0, 15, mode);
            DUE.same("a table in " + mode, t.prepare(0), left[mode] == Plain.NONE ? 0 : 1);
            DUE.same("a table in " + mode + " is then in", t.mode(0, 15), left[mode]);
            DUE.same("all", t.all(), left[mode] == Plain.NONE ? 0 : 1);
            DUE.same("state", t.state(0), Plain.PREPARED);
        }
    }

    private static void prepareRanges() {
        DUE.about("7: its locks in IS, S and U go: on ranges too");
        int[] modes = {Plain.S, Plain.U, Plain.X};
        for (int mode : modes) {
            LockTable t = Plain.working(1);
            t.table(0, 0, Plain.IX);
            t.range(0, 0, 5, 5, mode);
            boolean stays = mode == Plain.X;
            DUE.same("a range in " + mode, t.prepare(0), stays ? 2 : 1);
            DUE.same("range locks of " + mode, t.ranges(0, 0), stays ? 1 : 0);
            DUE.same("right by " + mode, t.right(0, 0, 5), stays ? Plain.X : Plain.NONE);
        }
    }

    private static void prepareCounts() {
        DUE.about("7: how many locks it has then");
        DUE.same("without any", Plain.working(1).prepare(0), 0);
        LockTable t = Plain.working(2);
        for (int table = 0; table < 16; table++) {
            t.table(0, table, Plain.IX);
            t.table(1, table, Plain.IX);
        }
        Plain.lockTens(t, 0, 15, 8, Plain.X);
        Plain.lockTens(t, 0, 0, 8, Plain.X);
        DUE.same("sixteen tables and sixteen ranges", t.prepare(0), 32);
        DUE.same("the other's are not counted", t.prepare(1), 16);
        DUE.same("nor are they less", t.all(), 48);
    }

    private static void prepareLooksAtAll() {
        DUE.about("7: its locks in IS, S and U go, so those that wait are looked at");
        LockTable t = Plain.working(4);
        t.table(0, 0, Plain.U);
        t.table(0, 1, Plain.X);
        t.table(1, 0, Plain.IX);
        t.table(2, 1, Plain.IS);
        t.table(3, 0, Plain.U);
        DUE.same("X stays", t.prepare(0), 1);
        DUE.text("one is granted", Plain.grants(t), "1");
        DUE.text("who waits on", Plain.line(t), "23");
    }

    private static void unreadTables() {
        DUE.about("8: An owner's locks in IS, S and U go, SIX becomes IX, and it goes on working");
        int[] left = {Plain.NONE, Plain.IX, Plain.NONE, Plain.IX, Plain.NONE, Plain.X};
        for (int mode = Plain.IS; mode <= Plain.X; mode++) {
            LockTable t = Plain.working(1);
            t.table(0, 15, mode);
            DUE.same("nobody waits", t.unread(0), 0);
            DUE.same("a table in " + mode + " is then in", t.mode(0, 15), left[mode]);
            DUE.same("all", t.all(), left[mode] == Plain.NONE ? 0 : 1);
            DUE.same("it works", t.state(0), Plain.WORKING);
            DUE.same("it has its serial", t.serial(0), 1);
            DUE.same("it asks for more", t.table(0, 14, Plain.IS), Plain.GRANTED);
        }
        DUE.same("without any lock", Plain.working(1).unread(0), 0);
    }

    private static void unreadRanges() {
        DUE.about("8: An owner's locks in IS, S and U go: on ranges too");
        LockTable t = Plain.working(2);
        t.table(0, 0, Plain.IX);
        t.table(1, 0, Plain.IX);
        t.range(0, 0, 1, 1, Plain.S);
        t.range(0, 0, 2, 2, Plain.X);
        t.range(0, 0, 3, 3, Plain.U);
        t.range(0, 0, 4, 4, Plain.X);
        t.range(0, 0, 5, 5, Plain.S);
        t.range(1, 0, 6, 6, Plain.S);
        t.unread(0);
        int[] left = {Plain.NONE, Plain.NONE, Plain.X, Plain.NONE, Plain.X, Plain.NONE};
        for (int key = 1; key <= 5; key++) {
            DUE.same("key " + key, t.right(0, 0, key), left[key]);
        }
        DUE.same("two left", t.ranges(0, 0), 2);
        DUE.same("the other's stays", t.right(1, 0, 6), Plain.S);
    }

    private static void unreadCountsOthers() {
        DUE.about("8: how many others were granted by that");
        for (int others = 0; others <= 7; others++) {
            LockTable t = Plain.working(8);
            t.table(0, 0, Plain.S);
            for (int owner = 1; owner <= others; owner++) {
                t.table(owner, 0, Plain.IX);
            }
            DUE.same(others + " wait", t.unread(0), others);
            DUE.text("those", Plain.grants(t), "1234567".substring(0, others));
        }
    }

    private static void endOfEachState() {
        DUE.about("9: An owner ends: all its locks and its request go, it is idle");
        int[] allThen = {5, 5, 6, 6};
        for (int owner = 0; owner < 4; owner++) {
            LockTable t = Plain.everyState();
            DUE.same("before", t.all(), 7);
            t.end(owner);
            DUE.same("owner " + owner, t.state(owner), Plain.IDLE);
            DUE.same("serial", t.serial(owner), Plain.NONE);
            DUE.same("its table", t.mode(owner, owner), Plain.NONE);
            DUE.same("all then", t.all(), allThen[owner]);
            DUE.same("it begins again", t.begin(owner), 7);
        }
    }

    private static void endTakesLocksOfThatOwner() {
        DUE.about("9: all its locks go, and no others");
        LockTable t = Plain.working(3);
        for (int owner = 0; owner < 3; owner++) {
            for (int table = 0; table < 16; table += 5) {
                t.table(owner, table, Plain.IX);
                t.range(owner, table, owner, owner, Plain.X);
                t.range(owner, table, 10, 10, Plain.S);
            }
        }
        t.end(1);
        for (int table = 0; table < 16; table += 5) {
            DUE.same("the one's table", t.mode(0, table), Plain.IX);
            DUE.same("the one's ranges", t.ranges(0, table), 2);
            DUE.same("its table", t.mode(1, table), Plain.NONE);
            DUE.same("its ranges", t.ranges(1, table), 0);
            DUE.same("the other's right", t.right(2, table, 2), Plain.X);
        }
        DUE.same("all", t.all(), 2 * 4 * 3);
    }

    private static void endCountsOthers() {
        DUE.about("9: how many others were granted by that");
        for (int others = 0; others <= 7; others++) {
            LockTable t = Plain.working(8);
            t.table(0, 0, Plain.X);
            for (int owner = 1; owner <= others; owner++) {
                t.table(owner, 0, Plain.IS);
            }
            DUE.same(others + " wait", t.end(0), others);
            DUE.text("those", Plain.grants(t), "1234567".substring(0, others));
        }
    }

    private static void limitOfNone() {
        DUE.about("10: 0: none");
        LockTable t = oneWaits();
        t.limit(0);
        DUE.same("one tick", t.tick(1), 0);
        DUE.same("a thousand", t.tick(1000), 0);
        t.limit(1000);
        t.limit(0);
        DUE.same("after another limit", t.tick(1), 0);
        DUE.same("it waits", t.state(1), Plain.WAITING);
    }

    private static void limitOfOne() {
        DUE.about("10: The time limit, in ticks: 1");
        LockTable t = oneWaits();
        t.limit(1);
        DUE.same("no tick", t.tick(0), 0);
        DUE.same("one", t.tick(1), 1);
        DUE.same("it works", t.state(1), Plain.WORKING);
    }

    private static void limitOfThousand() {
        DUE.about("10: The time limit, in ticks: 1000");
        LockTable t = oneWaits();
        t.limit(1000);
        DUE.same("999", t.tick(999), 0);
        DUE.same("the thousandth", t.tick(1), 1);
    }

    private static void limitFromNowOn() {
        DUE.about("10: The time limit from now on");
        LockTable t = oneWaits();
        t.limit(2);
        t.limit(4);
        DUE.same("the later one, three ticks", t.tick(3), 0);
        DUE.same("the later one, four", t.tick(1), 1);
        t.table(1, 0, Plain.X);
        DUE.same("it holds for the next, three ticks", t.tick(3), 0);
        t.limit(5);
        DUE.same("and is changed in between", t.tick(1), 0);
        DUE.same("five", t.tick(1), 1);
    }

    private static void ticksBeforeCount() {
        DUE.about("10: ticks that were waited before count");
        int[] due = {1, 1, 1, 0, 0};
        for (int i = 0; i < 5; i++) {
            LockTable t = oneWaits();
            t.tick(5);
            t.limit(4 + i);
            DUE.same("one tick more, limit " + (4 + i), t.tick(1), due[i]);
        }
    }

    private static void limitTakesNoneBackItself() {
        DUE.about("11: Time passes, tick by tick: in each; the limit alone takes none back");
        LockTable t = oneWaits();
        t.tick(10);
        t.limit(3);
        DUE.same("it waits", t.state(1), Plain.WAITING);
        DUE.same("ten ticks", t.wants(1, 5), 10);
    }

    private static void tickOfNone() {
        DUE.about("11: (0 of them: nothing)");
        LockTable t = oneWaits();
        t.tick(10);
        t.limit(3);
        String before = Plain.picture(t);
        DUE.same("none is taken back, though one is due", t.tick(0), 0);
        DUE.text("what there is then", Plain.picture(t), before);
        DUE.same("in the next tick it is", t.tick(1), 1);
    }

    private static void tickOfOneAndOfThousand() {
        DUE.about("11: Time passes, tick by tick");
        LockTable t = oneWaits();
        t.tick(1);
        DUE.same("one", t.wants(1, 5), 1);
        t.tick(1000);
        DUE.same("a thousand more", t.wants(1, 5), 1001);
        t.tick(999);
        DUE.same("999 more", t.wants(1, 5), 2000);
    }

    private static void soManyTicksOrMore() {
        DUE.about("11: that have waited so many ticks or more");
        for (int ticks = 1; ticks <= 5; ticks++) {
            LockTable t = oneWaits();
            t.limit(3);
            DUE.same(ticks + " ticks at once", t.tick(ticks), ticks >= 3 ? 1 : 0);
        }
        LockTable more = oneWaits();
        more.tick(500);
        more.limit(3);
        DUE.same("many more", more.tick(1), 1);
    }

    private static void sinceTheyBeganToWait() {
        DUE.about("11: (since they began to wait)");
        LockTable t = Plain.working(3);
        t.table(0, 0, Plain.X);
        t.limit(3);
        t.tick(2);
        t.table(1, 0, Plain.X);
        t.tick(1);
        t.table(2, 0, Plain.X);
        DUE.same("neither yet", t.tick(1), 0);
        DUE.same("the first", t.tick(1), 1);
        DUE.text("states", Plain.states(t), "11200000");
        DUE.same("the second, a tick later", t.tick(1), 1);
    }

    private static void sinceTheyBeganToWaitAnew() {
        DUE.about("11: (since they began to wait), which a new request does anew");
        LockTable t = oneWaits();
        t.limit(3);
        t.tick(2);
        t.cancel(1);
        t.table(1, 0, Plain.X);
        DUE.same("after cancel", t.tick(2), 0);
        DUE.same("the third", t.tick(1), 1);
        t.table(1, 0, Plain.X);
        DUE.same("after it was taken back", t.tick(2), 0);
        DUE.same("the third again", t.tick(1), 1);
        t.table(1, 0, Plain.X);
        t.tick(2);
        t.end(1);
        t.begin(1);
        t.table(1, 0, Plain.X);
        DUE.same("after end", t.tick(2), 0);
        DUE.same("and the third", t.tick(1), 1);
    }

    private static void takenBackAsByCancel() {
        DUE.about("11: is taken back, as by cancel");
        LockTable t = Plain.working(4);
        t.table(0, 0, Plain.S);
        t.table(1, 0, Plain.IS);
        t.table(1, 0, Plain.X);
        t.tick(1);
        t.table(2, 0, Plain.S);
        t.limit(2);
        DUE.same("the first is", t.tick(1), 1);
        DUE.text("it works", Plain.states(t), "11110000");
        DUE.same("with the lock that it had", t.mode(1, 0), Plain.IS);
        DUE.text("and the other was granted", Plain.grants(t), "2");
        DUE.same("three locks", t.all(), 3);
    }

    private static void theOneThatCameFirst() {
        DUE.about("11: the one that came first is taken back");
        LockTable t = Plain.working(4);
        t.table(0, 0, Plain.S);
        t.table(2, 0, Plain.X);
        t.table(1, 0, Plain.S);
        t.limit(1);
        DUE.same("both are due, and the second is granted by the first", t.tick(1), 1);
        DUE.same("S", t.mode(1, 0), Plain.S);
        DUE.text("granted", Plain.grants(t), "1");
    }

    private static void theOneThatCameFirstNotInLine() {
        DUE.about("11: the one that came first, though an inner one stands before it in the order");
        LockTable t = Plain.working(4);
        t.table(3, 0, Plain.IX);
        t.table(1, 0, Plain.IS);
        t.table(0, 0, Plain.S);
        t.table(2, 0, Plain.IX);
        t.table(1, 0, Plain.S);
        t.cancel(0);
        // 2 is behind the inner request of 1 alone: were 1 taken back first, 2 would be granted.
        DUE.text("the line", Plain.line(t), "12");
        DUE.same("2 is behind 1", t.behind(2), 0b0010);
        t.limit(1);
        DUE.same("first 2, then 1", t.tick(1), 2);
        DUE.same("2 has nothing", t.mode(2, 0), Plain.NONE);
    }

    private static void asLongAsThereIsOne() {
        DUE.about("11: as long as there is one");
        for (int waiting = 0; waiting <= 7; waiting++) {
            LockTable t = Plain.working(8);
            t.table(0, 0, Plain.X);
            for (int owner = 1; owner <= waiting; owner++) {
                t.table(owner, 0, Plain.X);
            }
            t.limit(1);
            DUE.same(waiting + " wait", t.tick(1), waiting);
            DUE.text("all work", Plain.states(t), "11111111");
            DUE.same("one lock", t.all(), 1);
        }
    }

    private static void inEachTick() {
        DUE.about("11: tick by tick: in each");
        LockTable t = Plain.working(5);
        t.table(0, 0, Plain.S);
        t.table(1, 0, Plain.X);
        t.tick(1);
        t.table(2, 0, Plain.IX);
        t.table(3, 0, Plain.S);
        t.limit(3);
        // In the second tick 1 goes, which leaves 3 behind 2; in the third 2 goes too, and 3 is due with it.
        DUE.same("two", t.tick(2), 1);
        DUE.text("after two", Plain.states(t), "11221000");
        DUE.same("the third", t.tick(1), 1);
        DUE.text("after three", Plain.states(t), "11111000");
        DUE.text("granted in it", Plain.grants(t), "3");
    }

    private static void howManyInAll() {
        DUE.about("11: how many in all");
        LockTable t = Plain.working(8);
        t.table(0, 0, Plain.X);
        for (int owner = 1; owner <= 7; owner++) {
            t.table(owner, 0, Plain.X);
            t.tick(1);
        }
        t.limit(10);
        DUE.same("one in each tick from the third to the fifth", t.tick(5), 3);
        DUE.text("states", Plain.states(t), "11112222");
        DUE.same("the others", t.tick(1000), 4);
        DUE.same("nobody is left", t.tick(1000), 0);
    }
}
