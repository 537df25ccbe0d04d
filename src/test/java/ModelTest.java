import java.util.ArrayList;
import java.util.List;
import java.util.Random;

/**
 * Long runs of calls, made from numbered seeds, on the class and on PlainModel side by side. Questions are calls
 * too, and an object has 512: so they are asked of another object, on which the calls so far are made again.
 */
public final class ModelTest {
    private static final int CALLS = 512;
    /** What difference() asks for at most: 21 of all, 9 of each owner, and 3 of each of its two tables. */
    private static final int QUESTIONS = 21 + 8 * (9 + 2 * 3);
    /** One of so many calls of a run is followed by questions. */
    private static final int QUESTIONS_AFTER = 3;
    private static final int RUNS = 240;
    /** Eight owners begin and hold sixteen tables each, before a run of the filling sort goes its way. */
    private static final int SETUP = 8 + 8 * 16;
    private static final int TRIES = 16;
    private static final int WRONG_RUNS_SHOWN = 5;

    private static final int THROWN_ARGUMENT = -1001;
    private static final int THROWN_STATE = -1002;
    private static final int THROWN_SUPPORT = -1003;

    /** What a run draws from: few tables and keys meet often, many fill the rows. */
    private enum Sort {
        CROWDED(8, 2, 9), MIXED(8, 4, 14), WIDE(8, 16, 40), FILLING(8, 16, 1000);

        final int owners;
        final int tables;
        final int keys;

        Sort(int owners, int tables, int keys) {
            this.owners = owners;
            this.tables = tables;
            this.keys = keys;
        }
    }

    /** One call, drawn before it is made so that both sides get the same. */
    private static final class Call {
        int kind;
        int owner;
        int table;
        int mode;
        int number;
        long low;
        long high;

        @Override
        public String toString() {
            String[] names = {
                "begin", "table", "range", "escalate", "cancel", "prepare", "unread", "end", "limit", "tick",
            };
            return names[kind] + " owner " + owner + " table " + table + " mode " + mode + " number " + number
                + " low " + low + " high " + high;
        }
    }

    private static int wrongRuns;
    private static int grantsByOthers;
    private static int victims;
    private static int refusals;
    private static int escalationsGrantedLater;

    public static void main(String[] args) {
        for (int seed = 0; seed < RUNS && wrongRuns < WRONG_RUNS_SHOWN; seed++) {
            run(seed, Sort.values()[seed % Sort.values().length]);
        }
        Due due = new Due();
        due.same("runs that differ", wrongRuns, 0);
        System.out.println(grantsByOthers + " calls granted others something, " + victims + " callers were victims, "
            + refusals + " were refused, " + escalationsGrantedLater + " escalations were granted later");
        due.same("the runs met all that they are for", grantsByOthers > 1000 && victims > 200
            && refusals > 50 && escalationsGrantedLater > 10 ? 1 : 0, 1);
        due.finish();
    }

    private static void run(int seed, Sort sort) {
        Random random = new Random(seed);
        LockTable t = new LockTable();
        PlainModel m = new PlainModel();
        List<Call> calls = new ArrayList<>();
        for (int i = 0; i < CALLS; i++) {
            Call c = sort == Sort.FILLING && i < SETUP ? setup(i) : draw(random, sort, m);
            calls.add(c);
            boolean wasEscalating = m.state(0) == 2 && m.wants(0, 4) == 1;
            int want = onModel(m, c);
            int got = onClass(t, c);
            if (got != want) {
                tell(seed, i, c, "answered " + got + ", due is " + want);
                return;
            }
            boolean room = calls.size() + QUESTIONS <= CALLS;
            String difference = room && random.nextInt(QUESTIONS_AFTER) == 0
                ? difference(madeAgain(calls), m, random, sort) : null;
            if (difference != null) {
                tell(seed, i, c, difference);
                return;
            }
            count(c, want, m, wasEscalating);
        }
    }

    private static LockTable madeAgain(List<Call> calls) {
        LockTable t = new LockTable();
        for (Call c : calls) {
            onClass(t, c);
        }
        return t;
    }

    private static void tell(int seed, int i, Call c, String what) {
        wrongRuns++;
        System.out.println("seed " + seed + ", call " + i + ", " + c + ": " + what);
    }

    private static void count(Call c, int answer, PlainModel m, boolean wasEscalating) {
        boolean request = c.kind >= 1 && c.kind <= 3;
        victims += request && answer == 2 ? 1 : 0;
        refusals += request && answer == 3 ? 1 : 0;
        grantsByOthers += m.granted(0) != -1 ? 1 : 0;
        escalationsGrantedLater += wasEscalating && m.state(0) == 1 && m.granted(0) == 0 ? 1 : 0;
    }

    private static Call setup(int i) {
        Call c = new Call();
        c.kind = i < 8 ? 0 : 1;
        c.owner = i % 8;
        c.table = i < 8 ? 0 : (i - 8) / 8;
        return c;
    }

    private static Call draw(Random random, Sort sort, PlainModel m) {
        Call c = new Call();
        c.kind = kind(random, sort);
        c.mode = mode(random, c.kind, sort);
        drawWho(c, random, sort, m);
        c.number = odd(random) ? random.nextInt(1006) - 2 : number(random, c.kind);
        c.low = random.nextInt(sort.keys);
        c.high = c.low + random.nextInt(3);
        if (odd(random)) {
            c.low = random.nextBoolean() ? Long.MIN_VALUE : Long.MAX_VALUE;
        }
        if (odd(random)) {
            c.high = random.nextBoolean() ? Long.MAX_VALUE : Long.MIN_VALUE;
        }
        return c;
    }

    /** An owner and a table; mostly ones with which the call throws nothing. */
    private static void drawWho(Call c, Random random, Sort sort, PlainModel m) {
        for (int i = 0; i < TRIES; i++) {
            c.owner = random.nextInt(sort.owners);
            c.table = random.nextInt(sort.tables);
            if (suits(c, m)) {
                break;
            }
        }
        if (odd(random)) {
            c.owner = random.nextInt(12) - 2;
        }
        if (odd(random)) {
            c.table = random.nextInt(20) - 2;
        }
    }

    private static boolean suits(Call c, PlainModel m) {
        int state = m.state(c.owner);
        switch (c.kind) {
            case 0: return state == 0;
            case 2: return state == 1 && allows(m.mode(c.owner, c.table), c.mode);
            case 3: return state == 1 && m.ranges(c.owner, c.table) != 0;
            case 4: return state == 2;
            case 7: return state == 1 || state >= 3;
            default: return state == 1;
        }
    }

    private static boolean allows(int held, int mode) {
        return mode == 2 ? held != -1 : held == 1 || held == 3 || held == 5;
    }

    private static boolean odd(Random random) {
        return random.nextInt(40) == 0;
    }

    private static int kind(Random random, Sort sort) {
        // From begin to tick, how many of a hundred calls are of this kind or an earlier one.
        int[] mixed = {14, 39, 79, 83, 85, 86, 88, 95, 96, 100};
        int[] filling = {2, 8, 91, 92, 94, 94, 95, 97, 98, 100};
        int[] upTo = sort == Sort.FILLING ? filling : mixed;
        int n = random.nextInt(100);
        int kind = 0;
        while (n >= upTo[kind]) {
            kind++;
        }
        return kind;
    }

    /** Few runs have a limit that is soon reached: it would leave few waiting long enough for rings. */
    private static int number(Random random, int kind) {
        return kind == 8 ? Math.max(0, random.nextInt(40) - 20) : random.nextInt(4);
    }

    private static int mode(Random random, int kind, Sort sort) {
        if (odd(random)) {
            return random.nextInt(10) - 2;
        }
        if (kind == 2) {
            int[] modes = {2, 2, 2, 4, 5};
            return modes[random.nextInt(sort == Sort.FILLING ? 3 : 5)];
        }
        return random.nextInt(10) < 7 ? random.nextInt(2) : random.nextInt(6);
    }

    private static int onClass(LockTable t, Call c) {
        try {
            switch (c.kind) {
                case 0: return t.begin(c.owner);
                case 1: return t.table(c.owner, c.table, c.mode);
                case 2: return t.range(c.owner, c.table, c.low, c.high, c.mode);
                case 3: return t.escalate(c.owner, c.table);
                case 4: return t.cancel(c.owner);
                case 5: return t.prepare(c.owner);
                case 6: return t.unread(c.owner);
                case 7: return t.end(c.owner);
                case 8:
                    t.limit(c.number);
                    return 0;
                default: return t.tick(c.number);
            }
        } catch (IllegalArgumentException e) {
            return THROWN_ARGUMENT;
        } catch (IllegalStateException e) {
            return THROWN_STATE;
        } catch (UnsupportedOperationException e) {
            return THROWN_SUPPORT;
        }
    }

    private static int onModel(PlainModel m, Call c) {
        try {
            switch (c.kind) {
                case 0: return m.begin(c.owner);
                case 1: return m.table(c.owner, c.table, c.mode);
                case 2: return m.range(c.owner, c.table, c.low, c.high, c.mode);
                case 3: return m.escalate(c.owner, c.table);
                case 4: return m.cancel(c.owner);
                case 5: return m.prepare(c.owner);
                case 6: return m.unread(c.owner);
                case 7: return m.end(c.owner);
                case 8: return m.limit(c.number);
                default: return m.tick(c.number);
            }
        } catch (IllegalArgumentException e) {
            return THROWN_ARGUMENT;
        } catch (IllegalStateException e) {
            return THROWN_STATE;
        } catch (UnsupportedOperationException e) {
            return THROWN_SUPPORT;
        }
    }

    /** A question that both sides answer differently; null when there is none among those asked. */
    private static String difference(LockTable t, PlainModel m, Random random, Sort sort) {
        int all = t.all();
        if (all != m.all()) {
            return "all() is " + all + ", due is " + m.all();
        }
        for (int i = -1; i <= 8; i++) {
            if (t.queue(i) != m.queue(i) || t.granted(i) != m.granted(i)) {
                return "queue or granted differs at " + i;
            }
        }
        int first = random.nextInt(sort.tables);
        int[] tables = {first, (first + 1) % sort.tables};
        for (int owner = 0; owner < 8; owner++) {
            if (!sameOwner(t, m, owner)) {
                return "state, serial, behind or wants of owner " + owner + " differs";
            }
            long key = random.nextInt(14);
            for (int table : tables) {
                if (t.mode(owner, table) != m.mode(owner, table)
                        || t.ranges(owner, table) != m.ranges(owner, table)
                        || t.right(owner, table, key) != m.right(owner, table, key)) {
                    return "mode, ranges or right at " + key + " of owner " + owner + " on table " + table + " differs";
                }
            }
        }
        return null;
    }

    private static boolean sameOwner(LockTable t, PlainModel m, int owner) {
        boolean same = t.state(owner) == m.state(owner) && t.serial(owner) == m.serial(owner)
            && t.behind(owner) == m.behind(owner);
        for (int what = 0; same && m.state(owner) == 2 && what < 6; what++) {
            same = t.wants(owner, what) == m.wants(owner, what);
        }
        return same;
    }
}
