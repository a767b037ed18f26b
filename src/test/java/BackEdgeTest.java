/** The sentences of promises 40 to 45, with the boundary cases that they name. */
public final class BackEdgeTest {
    private static final int[] WILD = {Integer.MIN_VALUE, -2, -1, 12, Integer.MAX_VALUE};

    public static void main(String[] args) {
        bucket();
        index();
        undo();
        image();
        restore();
        count();
        Edge.end();
    }

    private static void due(String what, long got, long want) {
        Edge.due(what, got, want);
    }

    private static void bucket() {
        Edge.promise(40);
        Edge.says("Of a BUCKET, what 0: its place among those HOT (0 the first; NONE: it isn't), 1: how many KEYS SEEN now are"
                + " of it, 2: 1, if it is HOT and CHANGED, else 0.");
        KeyDrive d = new KeyDrive();
        for (int b = 0; b < 8; b++) {
            bucketIs(d, b, -1, 0, 0);
        }
        Check.put(d, "h", "");
        Check.put(d, "g", "");
        Check.put(d, "\7", "");
        bucketIs(d, 0, 1, 1, 1);
        bucketIs(d, 7, 0, 2, 1);
        Check.get(d, "a", -1);
        bucketIs(d, 0, 2, 1, 1);
        bucketIs(d, 1, 0, 0, 0);
        d.snap(0);
        Check.remove(d, "\7");
        bucketIs(d, 7, 0, 1, 1);
        Check.get(d, "b", -1);
        bucketIs(d, 0, -1, 1, 0);
        bucketIs(d, 7, 1, 1, 1);
        Check.get(d, "c", -1);
        Check.get(d, "d", -1);
        bucketIs(d, 7, -1, 1, 0);
        Check.get(d, "g", -1);
        bucketIs(d, 7, 0, 1, 0);
        Edge.says("-2.");
        due("bucket 8", d.bucket(8, 0), -2);
        due("what 3", d.bucket(0, 3), -2);
        for (int wild : WILD) {
            due("bucket " + wild, d.bucket(wild, 0), -2);
            due("what " + wild, d.bucket(0, wild), -2);
        }
    }

    private static void bucketIs(KeyDrive d, int b, int place, int keys, int changed) {
        due("place of " + b, d.bucket(b, 0), place);
        due("keys of " + b, d.bucket(b, 1), keys);
        due("changed " + b, d.bucket(b, 2), changed);
    }

    private static void index() {
        Edge.promise(41);
        Edge.says("What 0: HITS, 1: LOADS, 2: STORES.");
        KeyDrive d = new KeyDrive();
        indexIs(d, 0, 0, 0);
        Check.put(d, "a", "");
        indexIs(d, 0, 1, 0);
        Check.put(d, "a", "");
        indexIs(d, 1, 1, 0);
        Check.get(d, "b", -1);
        Check.get(d, "c", -1);
        indexIs(d, 1, 3, 0);
        Check.get(d, "d", -1);
        indexIs(d, 1, 4, 1);
        Check.get(d, "e", -1);
        indexIs(d, 1, 5, 1);
        Edge.says("-2.");
        due("3", d.index(3), -2);
        for (int what : WILD) {
            due("" + what, d.index(what), -2);
        }
    }

    private static void indexIs(KeyDrive d, int... want) {
        for (int what = 0; what < 3; what++) {
            due("what " + what, d.index(what), want[what]);
        }
    }

    private static void undo() {
        Edge.promise(42);
        Edge.says("n calls (1 to 10) are UNDONE: how many still can be.");
        KeyDrive d = new KeyDrive();
        for (int i = 1; i <= 11; i++) {
            Check.put(d, "k", "v".repeat(i));
        }
        due("one", d.undo(1), 9);
        Check.get(d, "k", -1);
        due("the value ahead", d.count(8), 10);
        Check.put(d, "k", "");
        due("another call instead", d.count(6), 10);
        due("ten", d.undo(10), 0);
        due("SEQ", d.count(0), 1);
        Edge.says("-3: n, more than can be.");
        due("one of none", d.undo(1), -3);
        d.terms(0, 1);
        due("two of one", d.undo(2), -3);
        due("nothing was undone", d.count(6), 1);
        for (int n : new int[] {Integer.MIN_VALUE, -1, 0, 11, Integer.MAX_VALUE}) {
            due("" + n, d.undo(n), -3);
        }
        due("one of one", d.undo(1), 0);
        due("the rule is as it was", d.terms(0, 0), 0);
        KeyDrive e = new KeyDrive();
        for (int i = 0; i < 12; i++) {
            e.terms(0, i % 3);
        }
        due("eleven of ten", e.undo(11), -3);
        due("ten of ten", e.undo(10), 0);
        due("as behind the second", e.terms(0, 0), 1);
    }

    private static void image() {
        Edge.promise(43);
        Edge.says("An IMAGE is made: 0.");
        KeyDrive d = new KeyDrive();
        due("of an empty drive", d.image(0), 0);
        Check.put(d, "a", "v");
        due("another", d.image(1), 0);
        due("it is no call to be undone", d.count(6), 1);
        Check.put(d, "b", "v");
        due("the first", d.restore(0), 0);
        due("empty", d.keys(-1), 0);
        due("the second", d.restore(1), 0);
        due("one key", d.keys(-1), 1);
        Check.put(d, "c", "v");
        due("the first anew", d.image(0), 0);
        d.undo(1);
        due("it isn't undone with the rest", d.restore(0), 0);
        due("two keys", d.keys(-1), 2);
        d.restore(1);
        due("the second is as it was", d.keys(-1), 1);
        Edge.says("-2.");
        due("2", d.image(2), -2);
        for (int i : WILD) {
            due("" + i, d.image(i), -2);
        }
    }

    private static void restore() {
        Edge.promise(44);
        Edge.says("All that is in an IMAGE is as it was: 0.");
        KeyDrive d = Setups.rich();
        d.image(1);
        d.batch(0);
        Check.put(d, "a", "else");
        d.terms(0, 0);
        d.terms(1, 0);
        d.trim();
        due("back", d.restore(1), 0);
        Edge.due("as it was", Print.difference(Print.ofState(d), Print.ofState(Setups.rich())), "");
        due("the rule", d.terms(0, 0), 2);
        due("the choice", d.terms(1, 0), 1);
        KeyDrive e = Setups.rich();
        e.image(0);
        due("at once", e.restore(0), 0);
        due("nothing can be undone", e.count(6), 0);
        due("once more", e.restore(0), 0);
        due("the tape is left", e.count(7), 20);
        e.next(1);
        Edge.due("an iterator goes on from there", Check.answer(e), "ab");
        e.restore(0);
        due("and again", e.left(1), 1);
        Check.put(e, "n", "v");
        due("SEQ goes on from there", e.count(0), 9);
        Edge.says("-2;");
        due("2", e.restore(2), -2);
        for (int i : WILD) {
            due("" + i, e.restore(i), -2);
        }
        Edge.says("-6: none was made.");
        due("1 wasn't", e.restore(1), -6);
        due("0 of a new drive", new KeyDrive().restore(0), -6);
        due("nothing was undone", e.count(6), 1);
    }

    private static void count() {
        Edge.promise(45);
        Edge.says("0 SEQ, 1 FREE PAGES, 2 VERSIONS that stay, 3 the LAST (NONE), 4 SNAPSHOTS that hold a MOMENT (bits), 5"
                + " ITERATORS that are open (bits), 6 calls that can be UNDONE, 7 bytes on THE TAPE, 8 bytes of THE ANSWER.");
        KeyDrive d = new KeyDrive();
        countsAre(d, 0, 24, 0, -1, 0, 0, 0, 0, 0);
        for (int s = 0; s < 4; s++) {
            d.snap(s);
            due("bit of snapshot " + s, d.count(4), (2 << s) - 1);
        }
        for (int s = 0; s < 4; s++) {
            d.unsnap(s);
            due("without snapshot " + s, d.count(4), 15 - ((2 << s) - 1));
        }
        for (int i = 2; i >= 0; i--) {
            d.open(i, 0, -1);
            due("bit of iterator " + i, d.count(5), 8 - (1 << i));
        }
        d.close(1);
        due("without iterator 1", d.count(5), 5);
        for (int s = 0; s < 4; s++) {
            d.snap(s);
        }
        due("snapshots are no iterators", d.count(5), 5);
        due("nor iterators snapshots", d.count(4), 15);
        countsAre(Setups.rich(), 8, 21, 7, 2, 5, 2, 10, 20, 5);
        countsAre(Setups.full(), 23, 1, 23, 22, 0, 0, 10, 60, 0);
        countsAre(Setups.fullOfOld(), 46, 1, 46, 22, 2, 1, 10, 60, 0);
        Edge.says("NONE for others.");
        due("9", d.count(9), -1);
        for (int what : WILD) {
            due("" + what, d.count(what), -1);
        }
    }

    private static void countsAre(KeyDrive d, int... want) {
        for (int what = 0; what < 9; what++) {
            due("what " + what, d.count(what), want[what]);
        }
    }
}
