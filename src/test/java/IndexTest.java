/** Promises 40 and 41: buckets that are hot. The keys "a" to "g" are of the buckets 1 to 7, "h" is of bucket 0. */
public final class IndexTest {
    public static void main(String[] args) {
        bucket();
        touched();
        untouched();
        index();
        notUndone();
        Check.end();
    }

    private static void due(String what, long got, long want) {
        Check.due(what, got, want);
    }

    private static void bucket() {
        KeyDrive d = new KeyDrive();
        due("40 bucket -1", d.bucket(-1, 0), -2);
        due("40 bucket 8", d.bucket(8, 0), -2);
        due("40 what 3", d.bucket(0, 3), -2);
        due("40 what -1", d.bucket(0, -1), -2);
        due("40 none is hot", d.bucket(1, 0), -1);
        due("40 none is changed", d.bucket(1, 2), 0);
        Check.put(d, "a", "");
        Check.put(d, "i", "");
        Check.put(d, "b", "");
        due("40 two keys", d.bucket(1, 1), 2);
        due("40 one key", d.bucket(2, 1), 1);
        due("40 no key", d.bucket(0, 1), 0);
        due("40 the first", d.bucket(2, 0), 0);
        due("40 the second", d.bucket(1, 0), 1);
        d.snap(0);
        Check.remove(d, "i");
        due("40 one is removed", d.bucket(1, 1), 1);
        due("40 first again", d.bucket(1, 0), 0);
    }

    private static void touched() {
        KeyDrive d = new KeyDrive();
        Check.get(d, "a", -1);
        due("40 get of none makes it hot", d.bucket(1, 0), 0);
        due("40 not changed by get", d.bucket(1, 2), 0);
        Check.remove(d, "b");
        due("40 remove of none makes it hot", d.bucket(2, 0), 0);
        due("40 not changed by it", d.bucket(2, 2), 0);
        Check.put(d, "c", "");
        due("40 changed by put", d.bucket(3, 2), 1);
        due("40 the third", d.bucket(1, 0), 2);
        Check.get(d, "d", -1);
        due("40 the fourth isn't hot", d.bucket(1, 0), -1);
        Check.get(d, "e", -1);
        Check.get(d, "c", -1);
        due("40 changed since it became hot", d.bucket(3, 2), 1);
        Check.get(d, "f", -1);
        Check.get(d, "g", -1);
        Check.get(d, "h", -1);
        due("40 stored", d.index(2), 1);
        due("40 neither hot nor changed", d.bucket(3, 2), 0);
        Check.get(d, "c", -1);
        due("40 hot again, not changed since", d.bucket(3, 2), 0);
        Check.remove(d, "c");
        due("40 changed by a removal", d.bucket(3, 2), 1);
    }

    private static void untouched() {
        KeyDrive d = new KeyDrive();
        Check.put(d, "a", "");
        d.snap(0);
        Check.remove(d, "a");
        int before = d.index(0) + d.index(1);
        Check.versions(d, "b");
        Check.version(d, "b", 0, 0);
        Check.tape(d, "bb");
        d.hash(1);
        Check.tape(d, "bb");
        d.seek(1);
        Check.tape(d, "bb");
        d.between(1, 1);
        d.roll(0);
        Check.open(d, 0, "b", -1);
        d.next(0);
        Check.tape(d, "b");
        d.put(9, 0);
        d.get(1, 1);
        d.remove(0);
        due("40 others touch none", d.index(0) + d.index(1), before);
    }

    private static void index() {
        KeyDrive d = new KeyDrive();
        due("41 -1", d.index(-1), -2);
        due("41 3", d.index(3), -2);
        for (String key : new String[] {"a", "b", "a", "c", "d", "a"}) {
            Check.put(d, key, "");
        }
        due("41 hits", d.index(0), 2);
        due("41 loads", d.index(1), 4);
        due("41 stores", d.index(2), 1);
        Check.get(d, "e", -1);
        Check.get(d, "f", -1);
        due("41 stores of what was changed", d.index(2), 3);
        Check.get(d, "g", -1);
        Check.get(d, "h", -1);
        due("41 one more", d.index(2), 4);
        Check.get(d, "a", -1);
        due("41 none for what wasn't", d.index(2), 4);
    }

    private static void notUndone() {
        KeyDrive d = new KeyDrive();
        Check.put(d, "a", "");
        d.image(0);
        Check.put(d, "b", "");
        d.undo(1);
        due("42 hot stays", d.bucket(2, 0), 0);
        due("42 changed stays", d.bucket(2, 2), 1);
        due("42 its keys don't", d.bucket(2, 1), 0);
        due("42 loads stay", d.index(1), 2);
        d.restore(0);
        due("44 hot stays", d.bucket(2, 0), 0);
        due("44 loads stay", d.index(1), 2);
    }
}
