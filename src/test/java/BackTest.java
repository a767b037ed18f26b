/** Promises 42 to 45: undone, images, counts. */
public final class BackTest {
    public static void main(String[] args) {
        undo();
        undoBrings();
        undoForgets();
        image();
        restore();
        count();
        Check.end();
    }

    private static void due(String what, long got, long want) {
        Check.due(what, got, want);
    }

    private static void undo() {
        KeyDrive d = new KeyDrive();
        due("42 0", d.undo(0), -3);
        due("42 11", d.undo(11), -3);
        due("42 below", d.undo(Integer.MIN_VALUE), -3);
        due("42 more than can be", d.undo(1), -3);
        Check.put(d, "a", "1");
        Check.put(d, "b", "2");
        Check.put(d, "c", "3");
        due("42 still more", d.undo(4), -3);
        due("42 nothing was undone", d.keys(-1), 3);
        due("42 two", d.undo(2), 1);
        due("42 one is seen", d.keys(-1), 1);
        due("42 SEQ", d.count(0), 1);
        due("42 the next number", Check.put(d, "d", ""), 2);
        due("42 all", d.undo(2), 0);
        due("42 pages", d.count(1), 24);
        due("42 LAST", d.count(3), -1);
        due("42 no more", d.undo(1), -3);
    }

    private static void undoBrings() {
        KeyDrive d = new KeyDrive();
        Check.put(d, "a", "value");
        Check.get(d, "a", -1);
        Check.tape(d, "zz");
        Check.remove(d, "a");
        due("42 a key that isn't seen can't be undone", d.count(6), 1);
        Check.tape(d, "a");
        d.undo(1);
        due("42 the tape stays", d.count(7), 20);
        due("42 the answer stays", d.count(8), 5);
        due("42 the key doesn't", d.keys(-1), 0);
        d.batch(0);
        long sum = fill(d);
        int free = d.count(1);
        d.terms(0, 2);
        d.terms(1, 1);
        Check.remove(d, Check.key(0));
        Check.batch(d, Check.deedPut("x", "y") + Check.deedRemove(Check.key(1)));
        d.roll(0);
        d.trim();
        due("42 six more", d.undo(6), 4);
        due("42 all is as it was", d.sum(-1), sum);
        due("42 free pages", d.count(1), free);
        due("42 the snapshot holds", d.keys(0), 9);
        due("42 nothing was swept", d.wear(2), 0);
        due("42 rule", d.terms(0, 0), 0);
    }

    private static long fill(KeyDrive d) {
        for (int i = 0; i < 9; i++) {
            Check.putSize(d, Check.key(i), 20);
        }
        d.snap(0);
        return d.sum(-1);
    }

    private static void undoForgets() {
        KeyDrive d = new KeyDrive();
        for (int i = 0; i < 25; i++) {
            Check.put(d, "k", "v" + i);
        }
        due("42 ten at most", d.count(6), 10);
        due("42 eleven", d.undo(11), -3);
        due("42 ten", d.undo(10), 0);
        due("42 the eldest are forgotten", d.count(0), 15);
        due("42 gone on from there", Check.put(d, "k", "w"), 16);
        due("42 one can be", d.undo(1), 0);
    }

    private static void image() {
        KeyDrive d = new KeyDrive();
        due("43 -1", d.image(-1), -2);
        due("43 2", d.image(2), -2);
        Check.put(d, "a", "1");
        due("43 made", d.image(0), 0);
        due("43 undone still", d.count(6), 1);
        Check.put(d, "b", "1");
        due("43 another", d.image(1), 0);
        due("43 made anew", d.image(0), 0);
        d.undo(2);
        due("43 nothing is seen", d.keys(-1), 0);
        due("43 undo leaves images", d.restore(0), 0);
        due("43 the newer one", d.keys(-1), 2);
    }

    private static void restore() {
        KeyDrive d = new KeyDrive();
        due("44 -1", d.restore(-1), -2);
        due("44 2", d.restore(2), -2);
        due("44 none was made", d.restore(1), -6);
        Check.put(d, "a", "one");
        d.snap(2);
        Check.open(d, 1, "", -1);
        d.next(1);
        d.terms(0, 1);
        d.image(1);
        due("44 the other wasn't", d.restore(0), -6);
        Check.get(d, "a", -1);
        Check.remove(d, "a");
        d.trim();
        Check.tape(d, "a");
        due("44 back", d.restore(1), 0);
        due("44 key", d.keys(-1), 1);
        due("44 snapshot", d.count(4), 4);
        due("44 iterator", d.left(1), 0);
        due("44 SEQ", d.count(0), 1);
        due("44 rule", d.terms(0, 1), 1);
        due("44 the tape stays", d.count(7), 20);
        due("44 the answer stays", d.count(8), 3);
        d.undo(1);
        due("44 nothing ahead can be undone", d.count(6), 0);
        d.batch(0);
        Check.put(d, "b", "two");
        due("44 what comes behind can", d.undo(1), 1);
        due("44 gone on from again", d.restore(1), 0);
        due("44 nothing", d.count(6), 0);
        due("44 key again", d.keys(-1), 1);
    }

    private static void count() {
        KeyDrive d = new KeyDrive();
        due("45 -1", d.count(-1), -1);
        due("45 9", d.count(9), -1);
        Check.putSize(d, "aa", 46);
        Check.putSize(d, "bb", 46);
        d.snap(3);
        Check.remove(d, "aa");
        Check.open(d, 2, "", -1);
        Check.open(d, 0, "", 3);
        due("45 SEQ", d.count(0), 3);
        due("45 free pages", d.count(1), 22);
        due("45 versions that stay", d.count(2), 3);
        due("45 LAST", d.count(3), 1);
        due("45 snapshots", d.count(4), 8);
        due("45 iterators", d.count(5), 5);
        due("45 calls that can be undone", d.count(6), 6);
        Check.tape(d, "bb");
        due("45 bytes on the tape", d.count(7), 20);
        d.get(2, -1);
        due("45 bytes of the answer", d.count(8), 40);
        due("45 the tape is empty", d.count(7), 0);
    }
}
