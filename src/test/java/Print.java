import java.util.function.ToLongFunction;

/** All that a drive tells of itself without a key from the tape, as a text: two drives in one state print the same. */
final class Print {
    private Print() {
    }

    /** What undo() brings back and what an image keeps. */
    static String ofState(KeyDrive d) {
        StringBuilder out = new StringBuilder();
        many(out, "count", 0, 5, d::count);
        for (int p = 0; p < 24; p++) {
            int page = p;
            many(out, "page " + p, 0, 5, what -> d.page(page, what));
        }
        many(out, "space", 0, 4, d::space);
        many(out, "wear", 0, 4, d::wear);
        many(out, "victim", 0, 2, d::victim);
        many(out, "trimmed", 0, 2, d::trimmed);
        many(out, "packs", 0, 2, d::packs);
        many(out, "best", 0, 1, d::best);
        for (int size : new int[] {6, 12, 20, 46, 52}) {
            int of = size;
            many(out, "fits " + size, 0, 2, what -> what == 0 ? d.room(of) : what == 1 ? d.sure(of) : d.would(of));
        }
        many(out, "keys", -1, 3, d::keys);
        for (int at = -1; at < 4; at++) {
            out.append("sum ").append(d.sum(at)).append('\n');
        }
        for (int at = 0; at < 4; at++) {
            int s = at;
            many(out, "diff " + at, 0, 2, what -> d.diff(s, what));
        }
        many(out, "left", 0, 2, d::left);
        many(out, "groups", 1, 4, n -> d.groups(n, 0));
        many(out, "most", 1, 4, n -> d.groups(n, 1));
        many(out, "alike", 0, 1, d::alike);
        many(out, "keys of bucket", 0, 7, b -> d.bucket(b, 1));
        return out.toString();
    }

    /** What undo() and images leave. */
    static String ofRest(KeyDrive d) {
        StringBuilder out = new StringBuilder();
        many(out, "count", 7, 8, d::count);
        many(out, "answer", 0, Math.max(0, d.count(8) - 1), d::answer);
        many(out, "hot", 0, 7, b -> d.bucket(b, 0));
        many(out, "changed", 0, 7, b -> d.bucket(b, 2));
        many(out, "index", 0, 2, d::index);
        return out.toString();
    }

    static String ofAll(KeyDrive d) {
        StringBuilder out = new StringBuilder(ofState(d)).append(ofRest(d));
        many(out, "undoable", 6, 6, d::count);
        many(out, "fault", 0, 1, d::fault);
        return out.toString();
    }

    /** The lines in which two prints differ: empty, if they are the same. */
    static String difference(String one, String other) {
        String[] a = one.split("\n");
        String[] b = other.split("\n");
        StringBuilder out = new StringBuilder();
        for (int i = 0; i < Math.max(a.length, b.length); i++) {
            String left = i < a.length ? a[i] : "nothing";
            String right = i < b.length ? b[i] : "nothing";
            if (!left.equals(right)) {
                out.append('[').append(left).append(" / ").append(right).append(']');
            }
        }
        return out.toString();
    }

    private interface Told {
        int of(int what);
    }

    private static void many(StringBuilder out, String name, int from, int to, Told told) {
        out.append(name);
        for (int what = from; what <= to; what++) {
            out.append(' ').append(told.of(what));
        }
        out.append('\n');
    }

    /** A drive of some kind, made anew. */
    interface Made {
        KeyDrive make();
    }

    /** A call that is refused answers its code and leaves all as it is, what could be undone and the tape's bytes, too. */
    static void refused(String what, Made made, ToLongFunction<KeyDrive> call, long code) {
        KeyDrive tried = made.make();
        Edge.due(what, call.applyAsLong(tried), code);
        Edge.due(what + " changes nothing", difference(ofAll(tried), ofAll(made.make())), "");
        KeyDrive triedBack = made.make();
        KeyDrive plainBack = made.make();
        call.applyAsLong(triedBack);
        int steps = plainBack.count(6);
        if (steps > 0) {
            triedBack.undo(steps);
            plainBack.undo(steps);
        }
        Edge.due(what + " is no call to be undone", difference(ofAll(triedBack), ofAll(plainBack)), "");
        KeyDrive triedTape = made.make();
        KeyDrive plainTape = made.make();
        call.applyAsLong(triedTape);
        Edge.due(what + " leaves the tape's bytes", tapeOf(triedTape), tapeOf(plainTape));
    }

    /** What tells of the bytes on a tape: the sum with them as a key and its value, or a hash where there is no room. */
    private static String tapeOf(KeyDrive d) {
        int n = Math.min(8, d.count(7));
        if (n == 0) {
            return "";
        }
        d.trim();
        int seq = d.put(n, Math.min(40, d.count(7) - n));
        return seq < 0 ? "hash " + d.hash(n) : seq + " " + d.sum(KeyDrive.NONE);
    }
}
