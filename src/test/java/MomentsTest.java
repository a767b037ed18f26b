/** Promises 20 to 25: snapshots and iterators. */
public final class MomentsTest {
    public static void main(String[] args) {
        snap();
        unsnap();
        open();
        next();
        nextWhileWriting();
        left();
        close();
        Check.end();
    }

    private static void due(String what, long got, long want) {
        Check.due(what, got, want);
    }

    private static void snap() {
        KeyDrive d = new KeyDrive();
        due("20 -1", d.snap(-1), -2);
        due("20 4", d.snap(4), -2);
        due("20 at first", d.snap(3), 0);
        due("20 holds one", d.snap(3), -5);
        Check.put(d, "a", "");
        Check.put(d, "b", "");
        due("20 SEQ", d.snap(0), 2);
        due("20 both hold", d.count(4), 9);
        due("20 undone", d.undo(1), 3);
        due("20 holds none", d.keys(0), -6);
    }

    private static void unsnap() {
        KeyDrive d = new KeyDrive();
        due("21 -1", d.unsnap(-1), -2);
        due("21 4", d.unsnap(4), -2);
        due("21 held none", d.unsnap(0), -6);
        Check.put(d, "a", "1234");
        Check.put(d, "b", "12");
        d.snap(0);
        d.snap(1);
        Check.put(d, "a", "");
        Check.remove(d, "b");
        due("21 another holds the same moment", d.unsnap(0), 0);
        due("21 both records", d.unsnap(1), 18);
        due("21 dead", d.space(2), 18);
        due("21 what stays", d.count(2), 1);
        due("21 undone", d.undo(1), 7);
        due("21 old again", d.space(1), 18);
    }

    private static void open() {
        KeyDrive d = new KeyDrive();
        Check.put(d, "ab", "");
        Check.put(d, "abc", "");
        Check.put(d, "b", "");
        d.snap(2);
        Check.remove(d, "ab");
        due("22 iterator ahead of all", d.open(3, 99, 9), -2);
        due("22 iterator -1", d.open(-1, 0, -1), -2);
        due("22 at -2", d.open(0, 0, -2), -2);
        due("22 at 4", d.open(0, 0, 4), -2);
        due("22 more than there is", d.open(0, 1, -1), -3);
        Check.tape(d, "a");
        due("22 k -1", d.open(0, -1, -1), -3);
        due("22 k 9", d.open(0, 9, -1), -3);
        due("22 k ahead of the snapshot", d.open(0, 9, 0), -3);
        due("22 holds none", d.open(0, 1, 0), -6);
        due("22 refused, the tape stays", d.count(7), 20);
        due("22 now", d.open(0, 1, -1), 1);
        due("22 the tape is empty", d.count(7), 0);
        due("22 it is open", d.open(0, 9, 0), -5);
        due("22 it is open, behind at", d.open(0, 9, 4), -2);
        due("22 then", Check.open(d, 1, "a", 2), 2);
        Check.tape(d, "zzz");
        due("22 of no byte", d.open(2, 0, -1), 2);
        due("22 the tape is empty by that, too", d.count(7), 0);
        due("22 bits", d.count(5), 7);
        due("22 undone", d.undo(2), 6);
        due("22 bits then", d.count(5), 1);
        KeyDrive e = new KeyDrive();
        Check.put(e, "\0\0\0\0\0\0\0\0", "");
        due("22 eight bytes", Check.open(e, 0, "\0\0\0\0\0\0\0\0", -1), 1);
        due("22 a key shorter than the prefix", Check.put(e, "\0", ""), 2);
        due("22 doesn't begin with it", Check.open(e, 1, "\0\0", -1), 1);
    }

    private static void next() {
        KeyDrive d = new KeyDrive();
        due("23 -1", d.next(-1), -2);
        due("23 3", d.next(3), -2);
        due("23 not open", d.next(0), -6);
        for (String key : new String[] {"b", "ab", "a", "\u00ff", "abc"}) {
            Check.put(d, key, "value");
        }
        Check.open(d, 1, "", -1);
        for (String key : new String[] {"a", "ab", "abc", "b", "\u00ff"}) {
            due("23 how many bytes", d.next(1), key.length());
            Check.due("23 rising", Check.answer(d), key);
        }
        due("23 behind the last", d.next(1), -1);
        due("23 no answer", d.count(8), 0);
        due("23 closed", d.next(1), -6);
        due("23 each can be undone", d.count(6), 10);
        due("23 the last is undone", d.undo(1), 9);
        due("23 open again", d.left(1), 0);
        due("23 two more", d.undo(2), 7);
        due("23 goes on from there", d.next(1), 1);
        Check.due("23 with that key", Check.answer(d), "b");
    }

    private static void nextWhileWriting() {
        KeyDrive d = new KeyDrive();
        for (int i = 0; i < 5; i++) {
            Check.put(d, "k" + i, "old" + i);
        }
        Check.open(d, 0, "k", -1);
        d.next(0);
        Check.remove(d, "k0");
        Check.remove(d, "k1");
        Check.put(d, "k12", "new");
        Check.put(d, "k3", "new");
        due("23 removed since", d.next(0), 2);
        Check.due("23 told all the same", Check.answer(d), "k1");
        d.next(0);
        Check.due("23 the new one isn't", Check.answer(d), "k2");
        d.next(0);
        d.next(0);
        Check.due("23 the last", Check.answer(d), "k4");
        due("23 old bytes are held", d.space(1), 30);
        due("23 finds none", d.next(0), -1);
        due("23 they are dead by that", d.space(1), 0);
        due("23 dead", d.space(2), 30);
    }

    private static void left() {
        KeyDrive d = new KeyDrive();
        due("24 -1", d.left(-1), -2);
        due("24 3", d.left(3), -2);
        due("24 not open", d.left(2), -6);
        Check.put(d, "a", "");
        Check.put(d, "ab", "");
        Check.put(d, "b", "");
        Check.open(d, 2, "a", -1);
        due("24 both", d.left(2), 2);
        Check.remove(d, "a");
        Check.put(d, "ac", "");
        due("24 of its moment", d.left(2), 2);
        d.next(2);
        due("24 one", d.left(2), 1);
        d.next(2);
        due("24 none, still open", d.left(2), 0);
        int calls = d.count(6);
        d.left(2);
        due("24 can't be undone", d.count(6), calls);
    }

    private static void close() {
        KeyDrive d = new KeyDrive();
        due("25 -1", d.close(-1), -2);
        due("25 3", d.close(3), -2);
        due("25 not open", d.close(0), -6);
        Check.put(d, "a", "1234");
        Check.open(d, 0, "zzz", -1);
        Check.remove(d, "a");
        due("25 held, whatever the prefix", d.space(1), 10);
        due("25 dead by that", d.close(0), 10);
        due("25 closed", d.left(0), -6);
        due("25 undone", d.undo(1), 3);
        due("25 open again", d.count(5), 1);
        KeyDrive e = new KeyDrive();
        Check.put(e, "a", "1234");
        e.snap(0);
        Check.open(e, 0, "", 0);
        Check.remove(e, "a");
        due("25 the iterator holds it yet", e.unsnap(0), 0);
        due("25 now it is dead", e.close(0), 10);
        KeyDrive f = new KeyDrive();
        f.snap(2);
        f.snap(3);
        for (int i = 0; i < 3; i++) {
            Check.open(f, i, "", -1);
        }
        due("25 the last", f.close(2), 0);
        due("25 two are open", f.count(5), 3);
        due("25 the middle", f.close(1), 0);
        due("25 one is open", f.count(5), 1);
        due("25 snapshots hold", f.count(4), 12);
    }
}
