import java.util.ArrayList;
import java.util.Arrays;
import java.util.List;
import java.util.TreeMap;
import java.util.TreeSet;

/**
 * The document told once more, as plainly as the Java library allows: objects, whole copies, no thought of cost.
 * Tests compare KeyDrive with it over long runs.
 */
final class Model {
    static final int NONE = -1;

    /** A record; it stands in its page's list, in order. */
    static final class Rec {
        int size;
        boolean dead;
        byte[] value;

        Rec copy() {
            Rec r = new Rec();
            r.size = size;
            r.dead = dead;
            r.value = value;
            return r;
        }
    }

    static final class Ver {
        int number;
        Rec rec;
    }

    static final class Iter {
        byte[] prefix;
        int moment;
        byte[] lastTold;
    }

    static final class State {
        int seq;
        int rule;
        int choice;
        int last = NONE;
        int putBytes;
        int sweptBytes;
        int sweeps;
        int[] erases = new int[24];
        List<List<Rec>> pages = new ArrayList<>();
        TreeMap<byte[], List<Ver>> keys = new TreeMap<>(Arrays::compareUnsigned);
        Integer[] snaps = new Integer[4];
        Iter[] iters = new Iter[3];

        State() {
            for (int p = 0; p < 24; p++) {
                pages.add(new ArrayList<>());
            }
        }

        State copy() {
            State s = new State();
            s.seq = seq;
            s.rule = rule;
            s.choice = choice;
            s.last = last;
            s.putBytes = putBytes;
            s.sweptBytes = sweptBytes;
            s.sweeps = sweeps;
            s.erases = erases.clone();
            java.util.IdentityHashMap<Rec, Rec> twin = new java.util.IdentityHashMap<>();
            for (int p = 0; p < 24; p++) {
                for (Rec r : pages.get(p)) {
                    twin.put(r, r.copy());
                    s.pages.get(p).add(twin.get(r));
                }
            }
            keys.forEach((k, vs) -> {
                List<Ver> copies = new ArrayList<>();
                for (Ver v : vs) {
                    Ver c = new Ver();
                    c.number = v.number;
                    c.rec = v.rec == null ? null : twin.get(v.rec);
                    copies.add(c);
                }
                s.keys.put(k, copies);
            });
            s.snaps = snaps.clone();
            for (int i = 0; i < 3; i++) {
                if (iters[i] != null) {
                    s.iters[i] = new Iter();
                    s.iters[i].prefix = iters[i].prefix;
                    s.iters[i].moment = iters[i].moment;
                    s.iters[i].lastTold = iters[i].lastTold;
                }
            }
            return s;
        }

        int end(int p) {
            int e = 0;
            for (Rec r : pages.get(p)) {
                e += r.size;
            }
            return e;
        }

        boolean free(int p) {
            return pages.get(p).isEmpty();
        }

        int freeCount() {
            int n = 0;
            for (int p = 0; p < 24; p++) {
                n += free(p) ? 1 : 0;
            }
            return n;
        }

        int dead(int p) {
            int d = 0;
            for (Rec r : pages.get(p)) {
                d += r.dead ? r.size : 0;
            }
            return d;
        }

        int place(int size, int swept, boolean put) {
            List<Integer> able = new ArrayList<>();
            for (int p = 0; p < 24; p++) {
                if (p != swept && !free(p) && 64 - end(p) >= size) {
                    able.add(p);
                }
            }
            if (rule == 0 && able.contains(last)) {
                return last;
            }
            if (rule == 1 && !able.isEmpty()) {
                return able.get(0);
            }
            if (rule == 2 && !able.isEmpty()) {
                int best = able.get(0);
                for (int p : able) {
                    if (64 - end(p) < 64 - end(best)) {
                        best = p;
                    }
                }
                return best;
            }
            if (put && freeCount() == 1) {
                return NONE;
            }
            int best = NONE;
            for (int p = 0; p < 24; p++) {
                if (free(p) && (best == NONE || erases[p] < erases[best])) {
                    best = p;
                }
            }
            return best;
        }

        int victim(int by) {
            int best = NONE;
            for (int p = 0; p < 24; p++) {
                if (dead(p) == 0) {
                    continue;
                }
                boolean better = best == NONE
                        || by == 0 && dead(p) > dead(best)
                        || by == 1 && end(p) - dead(p) < end(best) - dead(best)
                        || by == 2 && erases[p] < erases[best];
                if (better) {
                    best = p;
                }
            }
            return best;
        }

        int sweep(int p) {
            int moved = 0;
            for (Rec r : new ArrayList<>(pages.get(p))) {
                if (!r.dead) {
                    int to = place(r.size, p, false);
                    pages.get(to).add(r);
                    last = to;
                    moved += r.size;
                }
            }
            pages.get(p).clear();
            erases[p]++;
            if (last == p) {
                last = NONE;
            }
            sweptBytes += moved;
            sweeps++;
            return moved;
        }

        Rec putRecord(int size) {
            while (place(size, NONE, true) == NONE) {
                int p = victim(choice);
                if (p == NONE) {
                    return null;
                }
                sweep(p);
            }
            Rec r = new Rec();
            r.size = size;
            int to = place(size, NONE, true);
            pages.get(to).add(r);
            last = to;
            putBytes += size;
            return r;
        }

        boolean put(byte[] key, byte[] value) {
            int size = 4 + key.length + value.length;
            size += size % 2;
            Rec r = putRecord(size);
            if (r == null) {
                return false;
            }
            r.value = value;
            seq++;
            add(key, r);
            prune();
            return true;
        }

        void add(byte[] key, Rec r) {
            Ver v = new Ver();
            v.number = seq;
            v.rec = r;
            keys.computeIfAbsent(key, k -> new ArrayList<>()).add(v);
        }

        int removeKey(byte[] key) {
            seq++;
            add(key, null);
            return prune();
        }

        int prune() {
            TreeSet<Integer> held = new TreeSet<>();
            for (Integer m : snaps) {
                if (m != null) {
                    held.add(m);
                }
            }
            for (Iter it : iters) {
                if (it != null) {
                    held.add(it.moment);
                }
            }
            int dead = 0;
            for (byte[] key : new ArrayList<>(keys.keySet())) {
                List<Ver> all = keys.get(key);
                List<Ver> stay = new ArrayList<>();
                for (Ver v : all) {
                    boolean stays = v == all.get(all.size() - 1);
                    for (int m : held) {
                        stays |= v == at(all, m);
                    }
                    if (stays) {
                        stay.add(v);
                    }
                }
                while (!stay.isEmpty() && stay.get(0).rec == null) {
                    stay.remove(0);
                }
                for (Ver v : all) {
                    if (v.rec != null && !stay.contains(v)) {
                        v.rec.dead = true;
                        dead += v.rec.size;
                    }
                }
                if (stay.isEmpty()) {
                    keys.remove(key);
                } else {
                    keys.put(key, stay);
                }
            }
            return dead;
        }

        static Ver at(List<Ver> all, int m) {
            Ver found = null;
            for (Ver v : all) {
                if (v.number <= m) {
                    found = v;
                }
            }
            return found;
        }

        Ver seen(byte[] key, int m) {
            List<Ver> all = keys.get(key);
            Ver v = all == null ? null : at(all, m);
            return v == null || v.rec == null ? null : v;
        }

        List<byte[]> seenKeys(int m) {
            List<byte[]> out = new ArrayList<>();
            for (byte[] k : keys.keySet()) {
                if (seen(k, m) != null) {
                    out.add(k);
                }
            }
            return out;
        }

        boolean live(Rec r) {
            for (List<Ver> vs : keys.values()) {
                if (vs.get(vs.size() - 1).rec == r) {
                    return true;
                }
            }
            return false;
        }

        List<byte[]> toTell(int i) {
            List<byte[]> out = new ArrayList<>();
            for (byte[] k : seenKeys(iters[i].moment)) {
                if (begins(k, iters[i].prefix)
                        && (iters[i].lastTold == null || Arrays.compareUnsigned(k, iters[i].lastTold) > 0)) {
                    out.add(k);
                }
            }
            return out;
        }
    }

    State s = new State();
    List<State> past = new ArrayList<>();
    State[] images = new State[2];
    byte[] tape = new byte[0];
    byte[] ans = new byte[0];
    int fault;
    int faultAt = NONE;
    List<Integer> hot = new ArrayList<>();
    boolean[] changed = new boolean[8];
    int hits;
    int loads;
    int stores;

    static boolean begins(byte[] k, byte[] prefix) {
        return k.length >= prefix.length && Arrays.equals(Arrays.copyOf(k, prefix.length), prefix);
    }

    static int common(byte[] a, byte[] b) {
        int m = Arrays.mismatch(a, b);
        return m < 0 ? a.length : m;
    }

    static int hashOf(byte[] k) {
        long h = 0;
        for (byte b : k) {
            h = (31 * h + (b & 255)) % 8191;
        }
        return (int) h;
    }

    byte[] take(int from, int n) {
        return Arrays.copyOfRange(tape, from, from + n);
    }

    boolean badKey(int k) {
        return k < 1 || k > 8 || k > tape.length;
    }

    void save(State before) {
        past.add(before);
        if (past.size() > 10) {
            past.remove(0);
        }
    }

    void touch(byte[] key, boolean change) {
        int b = hashOf(key) % 8;
        if (hot.contains(b)) {
            hits++;
            hot.remove((Integer) b);
        } else {
            loads++;
            changed[b] = false;
        }
        hot.add(0, b);
        if (hot.size() > 3) {
            int gone = hot.remove(3);
            stores += changed[gone] ? 1 : 0;
            changed[gone] = false;
        }
        changed[b] |= change;
    }

    int feed(int a, int b, int c, int d, int e) {
        if (tape.length > 40) {
            return -4;
        }
        java.nio.ByteBuffer all = java.nio.ByteBuffer.allocate(tape.length + 20);
        all.put(tape).putInt(a).putInt(b).putInt(c).putInt(d).putInt(e);
        tape = all.array();
        return tape.length;
    }

    int put(int k, int v) {
        if (k < 1 || k > 8 || v < 0 || v > 40 || k + v > tape.length) {
            return -3;
        }
        State before = s.copy();
        byte[] key = take(0, k);
        if (!s.put(key, take(k, v))) {
            s = before;
            return -4;
        }
        save(before);
        touch(key, true);
        tape = new byte[0];
        return s.seq;
    }

    Integer moment(int at) {
        return at == NONE ? Integer.valueOf(s.seq) : s.snaps[at];
    }

    int get(int k, int at) {
        if (at < -1 || at > 3) {
            return -2;
        }
        if (badKey(k)) {
            return -3;
        }
        if (moment(at) == null) {
            return -6;
        }
        byte[] key = take(0, k);
        tape = new byte[0];
        touch(key, false);
        Ver v = s.seen(key, moment(at));
        ans = v == null ? new byte[0] : v.rec.value;
        return v == null ? NONE : ans.length;
    }

    int answer(int i) {
        return i < 0 || i >= ans.length ? NONE : ans[i] & 255;
    }

    int remove(int k) {
        if (badKey(k)) {
            return -3;
        }
        byte[] key = take(0, k);
        tape = new byte[0];
        boolean there = s.seen(key, s.seq) != null;
        touch(key, there);
        if (!there) {
            return NONE;
        }
        save(s.copy());
        return s.removeKey(key);
    }

    int versions(int k) {
        if (badKey(k)) {
            return -3;
        }
        byte[] key = take(0, k);
        tape = new byte[0];
        return s.keys.containsKey(key) ? s.keys.get(key).size() : 0;
    }

    int version(int k, int i, int what) {
        if (what < 0 || what > 3) {
            return -2;
        }
        if (badKey(k)) {
            return -3;
        }
        byte[] key = take(0, k);
        tape = new byte[0];
        List<Ver> vs = s.keys.getOrDefault(key, new ArrayList<>());
        if (i < 0 || i >= vs.size()) {
            return NONE;
        }
        Ver v = vs.get(i);
        if (what == 0) {
            return v.number;
        }
        if (v.rec == null) {
            return NONE;
        }
        if (what == 3) {
            return v.rec.size;
        }
        for (int p = 0; p < 24; p++) {
            int at = 0;
            for (Rec r : s.pages.get(p)) {
                if (r == v.rec) {
                    return what == 1 ? p : at;
                }
                at += r.size;
            }
        }
        throw new IllegalStateException("a record is on no page");
    }

    int hash(int k) {
        if (badKey(k)) {
            return -3;
        }
        byte[] key = take(0, k);
        tape = new byte[0];
        return hashOf(key);
    }

    int batch(int n) {
        if (n < 0 || n > tape.length) {
            return -3;
        }
        byte[] b = take(0, n);
        tape = new byte[0];
        fault = 0;
        faultAt = NONE;
        List<byte[][]> deeds = new ArrayList<>();
        int at = 0;
        while (at < n && fault == 0) {
            int need = b[at] == 1 ? 3 : 2;
            if (b[at] != 1 && b[at] != 2) {
                fault = 1;
                faultAt = at;
            } else if (at + 1 < n && (b[at + 1] < 1 || b[at + 1] > 8)) {
                fault = 3;
                faultAt = at + 1;
            } else if (need == 3 && at + 2 < n && (b[at + 2] < 0 || b[at + 2] > 40)) {
                fault = 3;
                faultAt = at + 2;
            } else if (at + need > n || at + need + b[at + 1] + (need == 3 ? b[at + 2] : 0) > n) {
                fault = 2;
                faultAt = n;
            } else {
                byte[] key = Arrays.copyOfRange(b, at + need, at + need + b[at + 1]);
                byte[] value = need == 2 ? null
                        : Arrays.copyOfRange(b, at + 3 + key.length, at + 3 + key.length + b[at + 2]);
                deeds.add(new byte[][] {key, value});
                at += need + key.length + (value == null ? 0 : value.length);
            }
        }
        if (fault != 0) {
            return -30 - fault;
        }
        State before = s.copy();
        List<Boolean> did = new ArrayList<>();
        int done = 0;
        for (byte[][] d : deeds) {
            boolean does = d[1] != null || s.seen(d[0], s.seq) != null;
            if (d[1] != null && !s.put(d[0], d[1])) {
                s = before;
                return -4;
            }
            if (d[1] == null && does) {
                s.removeKey(d[0]);
            }
            did.add(does);
            done += does ? 1 : 0;
        }
        save(before);
        for (int i = 0; i < deeds.size(); i++) {
            touch(deeds.get(i)[0], did.get(i));
        }
        return done;
    }

    int fault(int what) {
        return what == 0 ? fault : what == 1 ? faultAt : NONE;
    }

    int seek(int k) {
        if (badKey(k)) {
            return -3;
        }
        byte[] key = take(0, k);
        tape = new byte[0];
        ans = new byte[0];
        for (byte[] other : s.seenKeys(s.seq)) {
            if (Arrays.compareUnsigned(other, key) >= 0) {
                ans = other;
                return other.length;
            }
        }
        return NONE;
    }

    int between(int k, int m) {
        if (k < 1 || k > 8 || m < 1 || m > 8 || k + m > tape.length) {
            return -3;
        }
        byte[] from = take(0, k);
        byte[] to = take(k, m);
        tape = new byte[0];
        int n = 0;
        for (byte[] other : s.seenKeys(s.seq)) {
            n += Arrays.compareUnsigned(other, from) >= 0 && Arrays.compareUnsigned(other, to) < 0 ? 1 : 0;
        }
        return n;
    }

    int diff(int at, int what) {
        if (at < 0 || at > 3 || what < 0 || what > 2) {
            return -2;
        }
        if (s.snaps[at] == null) {
            return -6;
        }
        int n = 0;
        for (byte[] key : s.keys.keySet()) {
            Ver now = s.seen(key, s.seq);
            Ver then = s.seen(key, s.snaps[at]);
            n += what == 0 && now != null && then == null
                    || what == 1 && now == null && then != null
                    || what == 2 && now != null && then != null && now != then ? 1 : 0;
        }
        return n;
    }

    int roll(int at) {
        if (at < 0 || at > 3) {
            return -2;
        }
        if (s.snaps[at] == null) {
            return -6;
        }
        State before = s.copy();
        int done = 0;
        for (byte[] key : new ArrayList<>(s.keys.keySet())) {
            Ver now = s.seen(key, s.seq);
            Ver then = s.seen(key, s.snaps[at]);
            if (now == then) {
                continue;
            }
            done++;
            if (then == null) {
                s.removeKey(key);
            } else if (!s.put(key, then.rec.value)) {
                s = before;
                return -4;
            }
        }
        save(before);
        return done;
    }

    int keys(int at) {
        if (at < -1 || at > 3) {
            return -2;
        }
        return moment(at) == null ? -6 : s.seenKeys(moment(at)).size();
    }

    int groups(int n, int what) {
        if (what < 0 || what > 1) {
            return -2;
        }
        if (n < 1 || n > 8) {
            return -3;
        }
        TreeMap<byte[], Integer> of = new TreeMap<>(Arrays::compareUnsigned);
        int most = 0;
        for (byte[] k : s.seenKeys(s.seq)) {
            if (k.length >= n) {
                most = Math.max(most, of.merge(Arrays.copyOf(k, n), 1, Integer::sum));
            }
        }
        return what == 0 ? of.size() : most;
    }

    int alike(int what) {
        if (what < 0 || what > 1) {
            return -2;
        }
        List<byte[]> all = s.seenKeys(s.seq);
        int least = all.isEmpty() ? 0 : all.get(0).length;
        int most = 0;
        for (int i = 0; i < all.size(); i++) {
            for (int j = i + 1; j < all.size(); j++) {
                least = Math.min(least, common(all.get(i), all.get(j)));
                most = Math.max(most, common(all.get(i), all.get(j)));
            }
        }
        return what == 0 ? least : most;
    }

    long sum(int at) {
        if (at < -1 || at > 3) {
            return -2;
        }
        if (moment(at) == null) {
            return -6;
        }
        long sum = 7;
        for (byte[] k : s.seenKeys(moment(at))) {
            for (byte b : k) {
                sum = 31 * sum + (b & 255);
            }
            byte[] value = s.seen(k, moment(at)).rec.value;
            sum = 31 * sum + value.length;
            for (byte b : value) {
                sum = 31 * sum + (b & 255);
            }
        }
        return sum;
    }

    int snap(int i) {
        if (i < 0 || i > 3) {
            return -2;
        }
        if (s.snaps[i] != null) {
            return -5;
        }
        save(s.copy());
        s.snaps[i] = s.seq;
        return s.seq;
    }

    int unsnap(int i) {
        if (i < 0 || i > 3) {
            return -2;
        }
        if (s.snaps[i] == null) {
            return -6;
        }
        save(s.copy());
        s.snaps[i] = null;
        return s.prune();
    }

    int open(int i, int k, int at) {
        if (i < 0 || i > 2 || at < -1 || at > 3) {
            return -2;
        }
        if (s.iters[i] != null) {
            return -5;
        }
        if (k < 0 || k > 8 || k > tape.length) {
            return -3;
        }
        if (moment(at) == null) {
            return -6;
        }
        save(s.copy());
        s.iters[i] = new Iter();
        s.iters[i].prefix = take(0, k);
        s.iters[i].moment = moment(at);
        tape = new byte[0];
        return s.toTell(i).size();
    }

    int next(int i) {
        if (i < 0 || i > 2) {
            return -2;
        }
        if (s.iters[i] == null) {
            return -6;
        }
        save(s.copy());
        List<byte[]> rest = s.toTell(i);
        if (rest.isEmpty()) {
            s.iters[i] = null;
            s.prune();
            ans = new byte[0];
            return NONE;
        }
        s.iters[i].lastTold = rest.get(0);
        ans = rest.get(0);
        return ans.length;
    }

    int left(int i) {
        if (i < 0 || i > 2) {
            return -2;
        }
        return s.iters[i] == null ? -6 : s.toTell(i).size();
    }

    int close(int i) {
        if (i < 0 || i > 2) {
            return -2;
        }
        if (s.iters[i] == null) {
            return -6;
        }
        save(s.copy());
        s.iters[i] = null;
        return s.prune();
    }

    int terms(int what, int v) {
        if (what < 0 || what > 1) {
            return -2;
        }
        if (v < 0 || v > 2) {
            return -3;
        }
        save(s.copy());
        int was = what == 0 ? s.rule : s.choice;
        if (what == 0) {
            s.rule = v;
        } else {
            s.choice = v;
        }
        return was;
    }

    int page(int p, int what) {
        if (p < 0 || p > 23 || what < 0 || what > 5) {
            return -2;
        }
        int live = 0;
        int old = 0;
        int n = 0;
        for (Rec r : s.pages.get(p)) {
            if (!r.dead) {
                n++;
                live += s.live(r) ? r.size : 0;
                old += s.live(r) ? 0 : r.size;
            }
        }
        return new int[] {s.end(p), live, old, s.dead(p), n, s.erases[p]}[what];
    }

    int space(int what) {
        if (what < 0 || what > 4) {
            return -2;
        }
        int all = 0;
        for (int p = 0; p < 24; p++) {
            all += what < 3 ? page(p, what + 1) : what == 4 ? (s.free(p) ? 64 : 0) : s.free(p) ? 0 : 64 - s.end(p);
        }
        return all;
    }

    int victim(int choice) {
        return choice < 0 || choice > 2 ? -3 : s.victim(choice);
    }

    int sweep(int p) {
        if (p < 0 || p > 23) {
            return -2;
        }
        if (s.dead(p) == 0) {
            return -5;
        }
        save(s.copy());
        return s.sweep(p);
    }

    int trim() {
        save(s.copy());
        s.snaps = new Integer[4];
        s.iters = new Iter[3];
        s.prune();
        while (s.victim(s.choice) != NONE) {
            s.sweep(s.victim(s.choice));
        }
        return s.freeCount();
    }

    int clear(int n) {
        if (n < 1 || n > 24) {
            return -3;
        }
        save(s.copy());
        int swept = 0;
        while (s.freeCount() < n && s.victim(s.choice) != NONE) {
            s.sweep(s.victim(s.choice));
            swept++;
        }
        return swept;
    }

    int trimmed(int choice) {
        if (choice < 0 || choice > 2) {
            return -3;
        }
        State t = s.copy();
        int moved = 0;
        while (t.victim(choice) != NONE) {
            moved += t.sweep(t.victim(choice));
        }
        return moved;
    }

    static boolean badSize(int size) {
        return size < 6 || size > 52 || size % 2 != 0;
    }

    int room(int size) {
        if (badSize(size)) {
            return -3;
        }
        State t = s.copy();
        int n = 0;
        while (t.putRecord(size) != null) {
            n++;
        }
        return n;
    }

    int sure(int size) {
        if (badSize(size)) {
            return -3;
        }
        int n = (s.freeCount() - 1) * (64 / size);
        for (int p = 0; p < 24; p++) {
            if (!s.free(p) && (s.rule > 0 || s.last == p)) {
                n += (64 - s.end(p)) / size;
            }
        }
        return n;
    }

    int would(int size) {
        if (badSize(size)) {
            return -3;
        }
        State t = s.copy();
        return t.putRecord(size) == null ? NONE : t.sweeps - s.sweeps;
    }

    List<Ver> liveVersions() {
        List<Ver> out = new ArrayList<>();
        for (byte[] k : s.seenKeys(s.seq)) {
            out.add(s.seen(k, s.seq));
        }
        out.sort((a, b) -> Integer.compare(a.number, b.number));
        return out;
    }

    static int pack(List<Ver> in, int rule) {
        List<Integer> ends = new ArrayList<>();
        int last = NONE;
        for (Ver v : in) {
            int to = NONE;
            for (int p = 0; p < ends.size(); p++) {
                boolean fits = ends.get(p) + v.rec.size <= 64;
                if (fits && (rule == 0 && p == last || rule == 1 && to == NONE
                        || rule == 2 && (to == NONE || ends.get(p) > ends.get(to)))) {
                    to = p;
                }
            }
            if (to == NONE) {
                to = ends.size();
                ends.add(0);
            }
            ends.set(to, ends.get(to) + v.rec.size);
            last = to;
        }
        return ends.size();
    }

    int packs(int rule) {
        return rule < 0 || rule > 2 ? -3 : pack(liveVersions(), rule);
    }

    int best(int what) {
        if (what < 0 || what > 1) {
            return -2;
        }
        if (what == 1) {
            List<Ver> in = liveVersions();
            in.sort((a, b) -> Integer.compare(b.rec.size, a.rec.size));
            return pack(in, 1);
        }
        int least = Math.min(packs(0), Math.min(packs(1), packs(2)));
        return packs(0) == least ? 0 : packs(1) == least ? 1 : 2;
    }

    int wear(int what) {
        if (what < 0 || what > 4) {
            return -2;
        }
        int[] sorted = s.erases.clone();
        Arrays.sort(sorted);
        return new int[] {s.putBytes, s.sweptBytes, s.sweeps, sorted[23], sorted[0]}[what];
    }

    int bucket(int b, int what) {
        if (b < 0 || b > 7 || what < 0 || what > 2) {
            return -2;
        }
        if (what == 0) {
            return hot.indexOf(b);
        }
        if (what == 2) {
            return hot.contains(b) && changed[b] ? 1 : 0;
        }
        int n = 0;
        for (byte[] k : s.seenKeys(s.seq)) {
            n += hashOf(k) % 8 == b ? 1 : 0;
        }
        return n;
    }

    int index(int what) {
        return what == 0 ? hits : what == 1 ? loads : what == 2 ? stores : -2;
    }

    int undo(int n) {
        if (n < 1 || n > past.size()) {
            return -3;
        }
        for (int i = 0; i < n; i++) {
            s = past.remove(past.size() - 1);
        }
        return past.size();
    }

    int image(int i) {
        if (i < 0 || i > 1) {
            return -2;
        }
        images[i] = s.copy();
        return 0;
    }

    int restore(int i) {
        if (i < 0 || i > 1) {
            return -2;
        }
        if (images[i] == null) {
            return -6;
        }
        s = images[i].copy();
        past.clear();
        return 0;
    }

    int count(int what) {
        switch (what) {
            case 0:
                return s.seq;
            case 1:
                return s.freeCount();
            case 2:
                return s.keys.values().stream().mapToInt(List::size).sum();
            case 3:
                return s.last;
            case 4:
                int bits = 0;
                for (int i = 0; i < 4; i++) {
                    bits |= s.snaps[i] == null ? 0 : 1 << i;
                }
                return bits;
            case 5:
                int open = 0;
                for (int i = 0; i < 3; i++) {
                    open |= s.iters[i] == null ? 0 : 1 << i;
                }
                return open;
            case 6:
                return past.size();
            case 7:
                return tape.length;
            case 8:
                return ans.length;
            default:
                return NONE;
        }
    }
}
