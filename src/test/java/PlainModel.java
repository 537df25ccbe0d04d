import java.util.ArrayList;
import java.util.List;

/**
 * The document once more, as plainly as it can be said and with no thought of speed: lists of
 * objects, and every question answered anew from them. ModelTest holds the class against it.
 */
final class PlainModel {
    private static final String[] NAMES = {"IS", "IX", "S", "SIX", "U", "X"};
    private static final String[] GOES_WITH = {" IS IX S SIX U ", " IS IX ", " IS S U ", " IS ", " IS S ", " "};

    /** A lock, or what is asked for. */
    private static final class Claim {
        int owner;
        int table;
        boolean whole;
        long low;
        long high;
        int mode;

        Claim(int owner, int table, boolean whole, long low, long high, int mode) {
            this.owner = owner;
            this.table = table;
            this.whole = whole;
            this.low = low;
            this.high = high;
            this.mode = mode;
        }

        boolean against(Claim o) {
            if (owner == o.owner || table != o.table || whole != o.whole || together(mode, o.mode)) {
                return false;
            }
            return whole || Math.max(low, o.low) <= Math.min(high, o.high);
        }

        boolean liesIn(Claim o) {
            return !whole && !o.whole && table == o.table && o.low <= low && high <= o.high;
        }
    }

    private static final class Request {
        Claim claim;
        boolean inner;
        boolean escalation;
        int ticks;
    }

    private final List<Claim> locks = new ArrayList<>();
    /** As they came; the order of those that wait is made of it. */
    private final List<Request> waiting = new ArrayList<>();
    private final int[] states = new int[8];
    private final int[] serials = {-1, -1, -1, -1, -1, -1, -1, -1};
    private final List<Integer> grants = new ArrayList<>();
    private int lastSerial;
    private int limit;

    static boolean together(int a, int b) {
        return GOES_WITH[a].contains(" " + NAMES[b] + " ");
    }

    int begin(int owner) {
        need(isOwner(owner));
        needState(states[owner] == 0);
        grants.clear();
        states[owner] = 1;
        serials[owner] = ++lastSerial;
        return lastSerial;
    }

    int table(int owner, int table, int mode) {
        need(isOwner(owner) && isTable(table) && isMode(mode));
        needState(states[owner] == 1);
        grants.clear();
        Claim held = held(owner, table);
        if (held != null && join(held.mode, mode) == held.mode) {
            return 0;
        }
        if (held == null && all() >= 256) {
            return 3;
        }
        int wanted = held == null ? mode : join(held.mode, mode);
        return ask(new Claim(owner, table, true, 0, 0, wanted), held != null, false);
    }

    int range(int owner, int table, long low, long high, int mode) {
        need(isOwner(owner) && isTable(table) && low <= high && (mode == 2 || mode == 4 || mode == 5));
        needState(states[owner] == 1);
        Claim held = held(owner, table);
        if (held == null || mode != 2 && held.mode != 1 && held.mode != 3 && held.mode != 5) {
            throw new UnsupportedOperationException();
        }
        grants.clear();
        Claim claim = new Claim(owner, table, false, low, high, mode);
        boolean inner = false;
        for (Claim lock : locks) {
            if (lock.owner == owner && lock.table == table && covers(lock, claim)) {
                return 0;
            }
            inner |= lock.owner == owner && claim.liesIn(lock);
        }
        if (ranges(owner, table) == 8) {
            return escalation(owner, table, mode != 2);
        }
        return all() >= 256 ? 3 : ask(claim, inner, false);
    }

    private static boolean covers(Claim lock, Claim claim) {
        if (lock.whole) {
            return lock.mode == 5 || claim.mode == 2 && lock.mode >= 2;
        }
        return claim.liesIn(lock) && claim.mode <= lock.mode;
    }

    int escalate(int owner, int table) {
        need(isOwner(owner) && isTable(table));
        needState(states[owner] == 1);
        if (ranges(owner, table) == 0) {
            throw new UnsupportedOperationException();
        }
        grants.clear();
        return escalation(owner, table, false);
    }

    private int escalation(int owner, int table, boolean strong) {
        for (Claim lock : locks) {
            strong |= lock.owner == owner && lock.table == table && !lock.whole && lock.mode != 2;
        }
        Claim held = held(owner, table);
        int wanted = join(held.mode, strong ? 5 : 2);
        if (wanted == held.mode) {
            locks.removeIf(lock -> lock.owner == owner && lock.table == table && !lock.whole);
            look();
            return 0;
        }
        return ask(new Claim(owner, table, true, 0, 0, wanted), true, true);
    }

    private int ask(Claim claim, boolean inner, boolean escalation) {
        Request r = new Request();
        r.claim = claim;
        r.inner = inner;
        r.escalation = escalation;
        waiting.add(r);
        states[claim.owner] = 2;
        if (behindOf(r).isEmpty()) {
            grant(r);
            if (escalation) {
                look();
            }
        }
        while (states[claim.owner] == 2 && leads(claim.owner, claim.owner)) {
            int victim = claim.owner;
            for (int o = 0; o < 8; o++) {
                if (leads(claim.owner, o) && leads(o, claim.owner) && serials[o] > serials[victim]) {
                    victim = o;
                }
            }
            waiting.remove(requestOf(victim));
            states[victim] = 3;
            look();
        }
        grants.remove(Integer.valueOf(claim.owner));
        return states[claim.owner] - 1;
    }

    private void grant(Request r) {
        Claim c = r.claim;
        waiting.remove(r);
        states[c.owner] = 1;
        grants.add(c.owner);
        if (c.whole) {
            locks.remove(held(c.owner, c.table));
        }
        locks.add(c);
        if (r.escalation) {
            locks.removeIf(lock -> lock.owner == c.owner && lock.table == c.table && !lock.whole);
        }
    }

    private void look() {
        boolean again = false;
        for (Request r : order()) {
            if (behindOf(r).isEmpty()) {
                grant(r);
                again |= r.escalation;
            }
        }
        if (again) {
            look();
        }
    }

    private List<Request> order() {
        List<Request> line = new ArrayList<>();
        for (Request r : waiting) {
            if (r.inner) {
                line.add(r);
            }
        }
        for (Request r : waiting) {
            if (!r.inner) {
                line.add(r);
            }
        }
        return line;
    }

    private List<Integer> behindOf(Request r) {
        List<Integer> found = new ArrayList<>();
        for (Claim lock : locks) {
            if (lock.against(r.claim)) {
                found.add(lock.owner);
            }
        }
        List<Request> line = order();
        for (Request before : line.subList(0, line.indexOf(r))) {
            if (before.claim.against(r.claim)) {
                found.add(before.claim.owner);
            }
        }
        return found;
    }

    /** Whether an owner is behind another one, by way of others or not. */
    private boolean leads(int from, int to) {
        return search(from, to, new ArrayList<>());
    }

    private boolean search(int from, int to, List<Integer> seen) {
        Request r = requestOf(from);
        if (r == null) {
            return false;
        }
        for (int next : behindOf(r)) {
            if (next == to) {
                return true;
            }
            if (!seen.contains(next)) {
                seen.add(next);
                if (search(next, to, seen)) {
                    return true;
                }
            }
        }
        return false;
    }

    int cancel(int owner) {
        need(isOwner(owner));
        needState(states[owner] == 2);
        grants.clear();
        waiting.remove(requestOf(owner));
        states[owner] = 1;
        look();
        return grants.size();
    }

    int prepare(int owner) {
        unread(owner);
        states[owner] = 4;
        int found = 0;
        for (Claim lock : locks) {
            found += lock.owner == owner ? 1 : 0;
        }
        return found;
    }

    int unread(int owner) {
        need(isOwner(owner));
        needState(states[owner] == 1);
        grants.clear();
        locks.removeIf(lock -> lock.owner == owner && (lock.mode == 0 || lock.mode == 2 || lock.mode == 4));
        for (Claim lock : locks) {
            if (lock.owner == owner && lock.mode == 3) {
                lock.mode = 1;
            }
        }
        look();
        return grants.size();
    }

    int end(int owner) {
        need(isOwner(owner));
        needState(states[owner] != 0);
        grants.clear();
        states[owner] = 0;
        serials[owner] = -1;
        waiting.remove(requestOf(owner));
        locks.removeIf(lock -> lock.owner == owner);
        look();
        return grants.size();
    }

    int limit(int ticks) {
        need(ticks >= 0 && ticks <= 1000);
        grants.clear();
        limit = ticks;
        return 0;
    }

    int tick(int n) {
        need(n >= 0 && n <= 1000);
        grants.clear();
        int taken = 0;
        for (int i = 0; i < n; i++) {
            for (Request r : waiting) {
                r.ticks++;
            }
            for (Request r = overdue(); r != null; r = overdue()) {
                waiting.remove(r);
                states[r.claim.owner] = 1;
                taken++;
                look();
            }
        }
        return taken;
    }

    private Request overdue() {
        for (Request r : waiting) {
            if (limit > 0 && r.ticks >= limit) {
                return r;
            }
        }
        return null;
    }

    int state(int owner) {
        need(isOwner(owner));
        return states[owner];
    }

    int serial(int owner) {
        need(isOwner(owner));
        return serials[owner];
    }

    int ranges(int owner, int table) {
        need(isOwner(owner) && isTable(table));
        int found = 0;
        for (Claim lock : locks) {
            found += lock.owner == owner && lock.table == table && !lock.whole ? 1 : 0;
        }
        return found;
    }

    int all() {
        return locks.size() + waiting.size();
    }

    int mode(int owner, int table) {
        need(isOwner(owner) && isTable(table));
        Claim held = held(owner, table);
        return held == null ? -1 : held.mode;
    }

    int right(int owner, int table, long key) {
        need(isOwner(owner) && isTable(table));
        int[] strongestFirst = {5, 4, 2};
        for (int mode : strongestFirst) {
            for (Claim lock : locks) {
                boolean its = lock.owner == owner && lock.table == table;
                if (its && covers(lock, new Claim(owner, table, false, key, key, mode))) {
                    return mode;
                }
            }
        }
        return -1;
    }

    int queue(int i) {
        return i < 0 || i >= waiting.size() ? -1 : order().get(i).claim.owner;
    }

    int wants(int owner, int what) {
        need(isOwner(owner) && what >= 0 && what <= 5);
        needState(states[owner] == 2);
        Request r = requestOf(owner);
        int[] answers = {
            r.claim.table, r.claim.whole ? 0 : 1, r.claim.mode, r.inner ? 1 : 0, r.escalation ? 1 : 0, r.ticks,
        };
        return answers[what];
    }

    int behind(int owner) {
        need(isOwner(owner));
        int bits = 0;
        if (states[owner] == 2) {
            for (int o : behindOf(requestOf(owner))) {
                bits |= 1 << o;
            }
        }
        return bits;
    }

    int granted(int i) {
        return i < 0 || i >= grants.size() ? -1 : grants.get(i);
    }

    int join(int a, int b) {
        need(isMode(a) && isMode(b));
        int best = 5;
        int most = 0;
        for (int m = 0; m < 6; m++) {
            boolean fits = true;
            int count = 0;
            for (int o = 0; o < 6; o++) {
                fits &= !together(m, o) || together(a, o) && together(b, o);
                count += together(m, o) ? 1 : 0;
            }
            if (fits && count > most) {
                best = m;
                most = count;
            }
        }
        return best;
    }

    private Claim held(int owner, int table) {
        for (Claim lock : locks) {
            if (lock.whole && lock.owner == owner && lock.table == table) {
                return lock;
            }
        }
        return null;
    }

    private Request requestOf(int owner) {
        for (Request r : waiting) {
            if (r.claim.owner == owner) {
                return r;
            }
        }
        return null;
    }

    private static boolean isOwner(int owner) {
        return owner >= 0 && owner < 8;
    }

    private static boolean isTable(int table) {
        return table >= 0 && table < 16;
    }

    private static boolean isMode(int mode) {
        return mode >= 0 && mode < 6;
    }

    private static void need(boolean holds) {
        if (!holds) {
            throw new IllegalArgumentException();
        }
    }

    private static void needState(boolean holds) {
        if (!holds) {
            throw new IllegalStateException();
        }
    }
}
