/** The sentences of promises 20 to 25, with the boundary cases that they name. */
public final class MomentsEdgeTest {
    private static final int[] WILD = {Integer.MIN_VALUE, -2, -1, 5, 24, Integer.MAX_VALUE};

    public static void main(String[] args) {
        snap();
        unsnap();
        open();
        openRefused();
        next();
        nextWhileWriting();
        left();
        close();
        Edge.end();
    }

    private static void due(String what, long got, long want) {
        Edge.due(what, got, want);
    }

    private static void snap() {
        Edge.promise(20);
        Edge.says("A SNAPSHOT holds the MOMENT SEQ is now: that.");
        KeyDrive d = new KeyDrive();
        due("at first", d.snap(0), 0);
        Check.put(d, "a", "");
        due("behind a put", d.snap(3), 1);
        due("the same moment by another", d.snap(1), 1);
        Check.remove(d, "a");
        due("behind a removal", d.snap(2), 2);
        due("all hold", d.count(4), 15);
        due("each its own", d.keys(0) * 1000 + d.keys(1) * 100 + d.keys(2) * 10 + d.keys(3), 101);
        Edge.says("-2;");
        due("4", d.snap(4), -2);
        for (int s : WILD) {
            due("" + s, d.snap(s), -2);
        }
        Edge.says("-5: it holds one.");
        for (int s = 0; s < 4; s++) {
            due("" + s, d.snap(s), -5);
        }
        due("it holds what it held", d.keys(0), 0);
        d.unsnap(0);
        due("it holds none any more", d.snap(0), 2);
        KeyDrive e = new KeyDrive();
        e.snap(0);
        due("moment 0 is one, too", e.snap(0), -5);
    }

    private static void unsnap() {
        Edge.promise(21);
        Edge.says("A SNAPSHOT holds none any more: how many bytes are DEAD by that.");
        KeyDrive d = new KeyDrive();
        d.snap(0);
        due("at moment 0: none", d.unsnap(0), 0);
        due("it holds none", d.count(4), 0);
        Check.putSize(d, "aa", 20);
        Check.putSize(d, "bb", 30);
        d.snap(3);
        due("what is seen now isn't", d.unsnap(3), 0);
        d.snap(3);
        Check.putSize(d, "aa", 6);
        Check.remove(d, "bb");
        due("both", d.unsnap(3), 50);
        due("so many are dead", d.space(2), 50);
        Check.putSize(d, "cc", 10);
        d.snap(1);
        d.snap(2);
        Check.putSize(d, "cc", 12);
        due("another holds the same moment", d.unsnap(2), 0);
        due("the last that does", d.unsnap(1), 10);
        Check.open(d, 0, "no", -1);
        d.snap(1);
        Check.remove(d, "cc");
        due("an iterator holds it, whatever its prefix", d.unsnap(1), 0);
        Edge.says("-2;");
        due("4", d.unsnap(4), -2);
        for (int s : WILD) {
            due("" + s, d.unsnap(s), -2);
        }
        Edge.says("-6: it held none.");
        for (int s = 0; s < 4; s++) {
            due("" + s, d.unsnap(s), -6);
        }
    }

    private static void open() {
        Edge.promise(22);
        Edge.says("An ITERATOR over a PREFIX of k bytes (0 to 8), at the MOMENT SEQ is now (at NONE), or that of a SNAPSHOT:"
                + " how many KEYS it will tell.");
        KeyDrive d = new KeyDrive();
        due("of none", d.open(0, 0, -1), 0);
        d.close(0);
        for (String key : new String[] {"abcdefgh", "abcdefg", "ab", "b"}) {
            Check.put(d, key, "");
        }
        due("no byte: all", Check.open(d, 0, "", -1), 4);
        due("one byte", Check.open(d, 1, "a", -1), 3);
        due("eight bytes", Check.open(d, 2, "abcdefgh", -1), 1);
        d.close(0);
        due("none begins so", Check.open(d, 0, "c", -1), 0);
        due("it is open all the same", d.left(0), 0);
        d.close(0);
        for (int s = 0; s < 4; s++) {
            d.snap(s);
            Check.put(d, "a" + s, "");
        }
        for (int s = 0; s < 4; s++) {
            due("at snapshot " + s, Check.open(d, 0, "a", s), 3 + s);
            d.close(0);
        }
        due("now", Check.open(d, 0, "a", -1), 7);
        for (int s = 0; s < 4; s++) {
            d.unsnap(s);
        }
        due("it holds its moment", d.left(0), 7);
    }

    private static void openRefused() {
        Edge.says("-2: the ITERATOR, at;");
        KeyDrive d = new KeyDrive();
        d.snap(0);
        Check.put(d, "a", "");
        Check.tape(d, "abcdefghi");
        due("iterator 3", d.open(3, 0, -1), -2);
        for (int i : WILD) {
            due("iterator " + i, d.open(i, 0, -1), -2);
        }
        for (int at : new int[] {Integer.MIN_VALUE, -2, 4, Integer.MAX_VALUE}) {
            due("at " + at, d.open(0, 0, at), -2);
        }
        Edge.says("-5: it is open;");
        for (int i = 0; i < 3; i++) {
            due("opens", Check.open(d, i, "", -1), 1);
            due("is open", d.open(i, 0, -1), -5);
        }
        d.close(1);
        due("closed", Check.open(d, 1, "", -1), 1);
        d.close(0);
        Edge.says("-3;");
        due("more than there is", d.open(0, 1, -1), -3);
        due("none of none", d.open(0, 0, -1), 1);
        d.close(0);
        Check.tape(d, "abcdefghi");
        due("k -1", d.open(0, -1, -1), -3);
        due("k 9", d.open(0, 9, -1), -3);
        due("k lowest", d.open(0, Integer.MIN_VALUE, -1), -3);
        due("k greatest", d.open(0, Integer.MAX_VALUE, -1), -3);
        Edge.says("-6.");
        for (int s = 1; s < 4; s++) {
            due("snapshot " + s + " holds none", d.open(0, 0, s), -6);
        }
        due("0 does", d.open(0, 0, 0), 0);
    }

    private static void next() {
        Edge.promise(23);
        Edge.says("Its next KEY: how many bytes, it is THE ANSWER.");
        KeyDrive d = new KeyDrive();
        for (String key : new String[] {"b", "abcdefgh", "a"}) {
            Check.put(d, key, "value");
        }
        Check.open(d, 2, "", -1);
        due("the first", d.next(2), 1);
        Edge.due("its key", Check.answer(d), "a");
        due("of eight bytes", d.next(2), 8);
        Edge.due("its key", Check.answer(d), "abcdefgh");
        due("the last", d.next(2), 1);
        Edge.due("its key", Check.answer(d), "b");
        Edge.says("NONE: there is none, it is closed;");
        due("open behind the last", d.count(5), 4);
        due("none", d.next(2), -1);
        due("closed", d.count(5), 0);
        due("without an answer", d.count(8), 0);
        Check.open(d, 0, "c", -1);
        due("none from the first on", d.next(0), -1);
        due("closed at once", d.count(5), 0);
        Edge.says("-2;");
        due("3", d.next(3), -2);
        for (int i : WILD) {
            due("" + i, d.next(i), -2);
        }
        Edge.says("-6: it isn't open.");
        for (int i = 0; i < 3; i++) {
            due("" + i, d.next(i), -6);
        }
        Check.open(d, 1, "", -1);
        d.close(1);
        due("closed by close()", d.next(1), -6);
        Check.open(d, 1, "", -1);
        d.trim();
        due("closed by trim()", d.next(1), -6);
    }

    private static void nextWhileWriting() {
        Edge.promise(23);
        Edge.says("Its next KEY: how many bytes, it is THE ANSWER.");
        KeyDrive d = new KeyDrive();
        for (int i = 0; i < 4; i++) {
            Check.putSize(d, "k" + i, 10);
        }
        d.snap(0);
        Check.put(d, "k9", "");
        Check.open(d, 0, "k", 0);
        Check.open(d, 1, "k", 0);
        d.next(0);
        Check.remove(d, "k0");
        Check.remove(d, "k1");
        Check.put(d, "k00", "");
        d.unsnap(0);
        d.next(0);
        Edge.due("one that was removed since", Check.answer(d), "k1");
        d.next(1);
        Edge.due("each for itself", Check.answer(d), "k0");
        d.undo(1);
        d.undo(1);
        d.next(0);
        Edge.due("once more behind undo()", Check.answer(d), "k1");
        d.next(0);
        d.next(0);
        Edge.due("the last of its moment", Check.answer(d), "k3");
        Edge.says("NONE: there is none, it is closed; -2; -6: it isn't open.");
        due("what came later isn't told", d.next(0), -1);
        due("old bytes are held by the other", d.space(1), 20);
        d.close(1);
        due("and now by none", d.space(1), 0);
        due("dead", d.space(2), 20);
    }

    private static void left() {
        Edge.promise(24);
        Edge.says("How many KEYS it will tell yet.");
        KeyDrive d = new KeyDrive();
        Check.put(d, "a", "");
        Check.put(d, "b", "");
        Check.open(d, 0, "", -1);
        Check.open(d, 2, "zz", -1);
        due("all", d.left(0), 2);
        due("none", d.left(2), 0);
        d.next(0);
        due("one", d.left(0), 1);
        Check.remove(d, "b");
        Check.put(d, "c", "");
        due("of its moment", d.left(0), 1);
        d.next(0);
        due("behind the last", d.left(0), 0);
        due("it is open still", d.count(5), 5);
        Edge.says("-2;");
        due("3", d.left(3), -2);
        for (int i : WILD) {
            due("" + i, d.left(i), -2);
        }
        Edge.says("-6.");
        due("never open", d.left(1), -6);
        d.next(0);
        due("closed", d.left(0), -6);
    }

    private static void close() {
        Edge.promise(25);
        Edge.says("It is closed: how many bytes are DEAD by that.");
        KeyDrive d = new KeyDrive();
        Check.putSize(d, "aa", 20);
        Check.putSize(d, "bb", 30);
        Check.open(d, 0, "zz", -1);
        due("none", d.close(0), 0);
        due("closed", d.count(5), 0);
        Check.open(d, 0, "", -1);
        Check.open(d, 1, "", -1);
        Check.putSize(d, "aa", 6);
        Check.remove(d, "bb");
        due("another holds the same moment", d.close(0), 0);
        due("both records", d.close(1), 50);
        d.snap(0);
        Check.open(d, 2, "", 0);
        Check.remove(d, "aa");
        due("a snapshot holds it", d.close(2), 0);
        due("no more", d.unsnap(0), 6);
        Edge.says("-2;");
        due("3", d.close(3), -2);
        for (int i : WILD) {
            due("" + i, d.close(i), -2);
        }
        Edge.says("-6.");
        for (int i = 0; i < 3; i++) {
            due("" + i, d.close(i), -6);
        }
    }
}
