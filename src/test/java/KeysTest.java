/** Promises 1 to 19: the new object, keys and values. */
public final class KeysTest {
    public static void main(String[] args) {
        newObject();
        feed();
        put();
        putWithoutRoom();
        putSweeps();
        putOfMany();
        get();
        answer();
        remove();
        versions();
        version();
        hash();
        batch();
        batchOrder();
        batchWithoutRoom();
        fault();
        seek();
        between();
        diff();
        roll();
        rollWithoutRoom();
        keys();
        groups();
        alike();
        sum();
        Check.end();
    }

    private static void due(String what, long got, long want) {
        Check.due(what, got, want);
    }

    private static void newObject() {
        KeyDrive d = new KeyDrive();
        due("1 NONE", KeyDrive.NONE, -1);
        due("1 keys", d.keys(-1), 0);
        due("1 SEQ", d.count(0), 0);
        due("1 all pages are free", d.count(1), 24);
        due("1 no version", d.count(2), 0);
        due("1 no LAST", d.count(3), -1);
        due("1 tape", d.count(7), 0);
    }

    private static void feed() {
        KeyDrive d = new KeyDrive();
        due("2 feed", d.feed(0x01020304, 0x050607ff, 0x80000000, 0, -1), 20);
        due("2 put of what was fed", d.put(8, 12), 1);
        due("2 get", Check.get(d, "\1\2\3\4\5\6\7\u00ff", -1), 12);
        due("2 highest byte first", d.answer(0), 0x80);
        due("2 lowest byte last", d.answer(11), 255);
        due("2 first", d.feed(0, 0, 0, 0, 0), 20);
        due("2 behind it", d.feed(0, 0, 0, 0, 0), 40);
        due("2 sixty", d.feed(0, 0, 0, 0, 0), 60);
        due("2 more than sixty", d.feed(1, 2, 3, 4, 5), -4);
        due("2 nothing came", d.count(7), 60);
    }

    private static void put() {
        KeyDrive d = new KeyDrive();
        due("3 empty tape", d.put(1, 0), -3);
        d.feed(0x61626364, 0, 0, 0, 0);
        due("3 k 0", d.put(0, 0), -3);
        due("3 k 9", d.put(9, 0), -3);
        due("3 k lowest", d.put(Integer.MIN_VALUE, 0), -3);
        due("3 k greatest", d.put(Integer.MAX_VALUE, Integer.MAX_VALUE), -3);
        due("3 v -1", d.put(1, -1), -3);
        due("3 v 41", d.put(1, 41), -3);
        due("3 more than there is", d.put(1, 20), -3);
        due("3 refused calls leave the tape", d.count(7), 20);
        due("3 refused calls touch nothing", d.index(1), 0);
        due("3 all there is", d.put(1, 19), 1);
        due("3 the tape is empty then", d.count(7), 0);
        due("3 size 24 of 4, 1, 19", d.page(0, 0), 24);
        due("3 its SEQ", Check.put(d, "a", ""), 2);
        due("3 size 6 of 4, 1, 0", d.page(0, 0), 30);
        due("3 the older version is dead", d.page(0, 3), 24);
        due("3 greatest", Check.put(d, "abcdefgh", "v".repeat(40)), 3);
        due("3 of size 52, to another page", d.page(1, 0), 52);
    }

    private static void putWithoutRoom() {
        KeyDrive d = Check.filled(23, 46);
        due("3 one page is free", d.count(1), 1);
        Check.tape(d, "zz" + "v".repeat(40));
        due("3 no room", d.put(2, 40), -4);
        due("3 the tape stays", d.count(7), 60);
        due("3 nothing was done", d.count(0), 23);
        due("3 no call more can be undone", d.count(6), 10);
        d.batch(0);
        due("3 the old version isn't dead yet", Check.putSize(d, Check.key(0), 46), -4);
        d.batch(0);
        due("3 behind the LAST one's END", Check.putSize(d, Check.key(0), 12), 24);
        due("3 dead then", d.page(0, 3), 46);
        // What the swept page still has takes the only free page, so no second one is free for the put.
        KeyDrive e = Check.filled(23, 46);
        e.terms(0, 1);
        for (int i = 0; i < 23; i++) {
            Check.putSize(e, "b" + (char) (65 + i), 12);
        }
        Check.remove(e, "bA");
        due("3 dead bytes", e.space(2), 12);
        int last = e.count(3);
        due("3 swept in vain", Check.putSize(e, "zz", 20), -4);
        due("3 nothing was swept", e.wear(2), 0);
        due("3 no bytes moved", e.wear(1), 0);
        due("3 LAST as it was", e.count(3), last);
        due("3 dead bytes as they were", e.space(2), 12);
        e.batch(0);
        due("3 on the same page still", Check.version(e, Check.key(0), 0, 1), 0);
    }

    private static void putSweeps() {
        KeyDrive d = Check.filled(23, 46);
        Check.remove(d, Check.key(5));
        Check.remove(d, Check.key(7));
        due("3 sweeps the lowest of like ones", Check.putSize(d, "zz", 46), 26);
        due("3 swept", d.page(5, 5), 1);
        due("3 not swept", d.page(7, 3), 46);
        due("3 to the free page of fewest erases", d.page(23, 0), 46);
        due("3 one stays free", d.count(1), 1);
    }

    private static void putOfMany() {
        KeyDrive d = new KeyDrive();
        for (int i = 0; i < 40; i++) {
            StringBuilder puts = new StringBuilder();
            StringBuilder removals = new StringBuilder();
            for (int j = 0; j < 12; j++) {
                String key = "" + (char) i + (char) j;
                puts.append(Check.deedPut(key, ""));
                removals.append(Check.deedRemove(key));
            }
            due("3 put", Check.batch(d, puts.toString()), 12);
            due("3 removed", Check.batch(d, removals.toString()), 12);
        }
        due("3 as many keys as come may go", d.count(2), 0);
        due("3 the next one", Check.put(d, "k", "v"), 961);
        due("3 is there", Check.get(d, "k", -1), 1);
    }

    private static void get() {
        KeyDrive d = new KeyDrive();
        Check.put(d, "k", "old");
        d.snap(2);
        Check.put(d, "k", "newer");
        due("4 now", Check.get(d, "k", -1), 5);
        Check.due("4 its value", Check.answer(d), "newer");
        due("4 then", Check.get(d, "k", 2), 3);
        Check.due("4 its value then", Check.answer(d), "old");
        due("4 the tape is empty", d.count(7), 0);
        due("4 of none", Check.get(d, "K", -1), -1);
        due("4 the tape is empty behind NONE, too", d.count(7), 0);
        due("4 no answer behind what found none", d.count(8), 0);
        Check.put(d, "n", "later");
        due("4 not seen then", Check.get(d, "n", 2), -1);
        Check.tape(d, "k");
        due("4 at -2", d.get(1, -2), -2);
        due("4 at 4", d.get(1, 4), -2);
        due("4 at ahead of k", d.get(0, 4), -2);
        due("4 k 0", d.get(0, -1), -3);
        due("4 k 9", d.get(9, -1), -3);
        due("4 k ahead of the snapshot", d.get(9, 1), -3);
        due("4 that snapshot has none", d.get(1, 1), -6);
        due("4 refused calls leave the tape", d.count(7), 20);
        d.batch(0);
        due("4 more than there is", d.get(1, -1), -3);
        Check.remove(d, "k");
        due("4 removed", Check.get(d, "k", -1), -1);
        due("4 still seen then", Check.get(d, "k", 2), 3);
        Check.put(d, "e", "");
        due("4 of no byte", Check.get(d, "e", -1), 0);
        int calls = d.count(6);
        Check.get(d, "e", -1);
        due("4 can't be undone", d.count(6), calls);
    }

    private static void answer() {
        KeyDrive d = new KeyDrive();
        due("5 none at first", d.answer(0), -1);
        Check.put(d, "k", "\u0000\u007f\u0080\u00ff");
        due("5 a put finds nothing", d.answer(0), -1);
        Check.get(d, "k", -1);
        due("5 lowest", d.answer(0), 0);
        due("5 middle", d.answer(2), 128);
        due("5 greatest", d.answer(3), 255);
        due("5 not so many", d.answer(4), -1);
        due("5 far more", d.answer(Integer.MAX_VALUE), -1);
        due("5 below 0", d.answer(-1), -1);
        d.get(0, -1);
        due("5 a refused call leaves it", d.count(8), 4);
        Check.remove(d, "k");
        due("5 remove() leaves it", d.count(8), 4);
    }

    private static void remove() {
        KeyDrive d = new KeyDrive();
        due("6 empty tape", d.remove(1), -3);
        Check.put(d, "k", "value");
        Check.tape(d, "k");
        due("6 k 0", d.remove(0), -3);
        due("6 k 9", d.remove(9), -3);
        due("6 refused calls leave the tape", d.count(7), 20);
        due("6 bytes that are dead", d.remove(1), 10);
        due("6 SEQ", d.count(0), 2);
        due("6 nothing stays", d.count(2), 0);
        due("6 not seen", Check.remove(d, "k"), -1);
        due("6 SEQ stays", d.count(0), 2);
        due("6 the tape is empty", d.count(7), 0);
        due("6 undoable: put and remove", d.count(6), 2);
        Check.put(d, "k", "value");
        d.snap(0);
        due("6 held: none are dead", Check.remove(d, "k"), 0);
        due("6 its versions", Check.versions(d, "k"), 2);
        Check.put(d, "k", "again");
        due("6 the newer one is dead", Check.remove(d, "k"), 10);
        due("6 removed twice, told once", Check.versions(d, "k"), 2);
        due("6 the number", Check.version(d, "k", 1, 0), 6);
    }

    private static void versions() {
        KeyDrive d = new KeyDrive();
        due("7 empty tape", d.versions(1), -3);
        Check.tape(d, "k");
        due("7 k 0", d.versions(0), -3);
        due("7 k 9", d.versions(9), -3);
        due("7 none", d.versions(1), 0);
        due("7 the tape is empty", d.count(7), 0);
        for (int s = 0; s < 4; s++) {
            Check.put(d, "k", "v" + s);
            d.snap(s);
        }
        for (int i = 0; i < 3; i++) {
            Check.put(d, "k", "i" + i);
            Check.open(d, i, "", -1);
        }
        Check.put(d, "k", "now");
        due("7 seven held and the latest", Check.versions(d, "k"), 8);
        Check.put(d, "k", "later");
        due("7 the one between goes", Check.versions(d, "k"), 8);
        d.unsnap(1);
        due("7 one is held no more", Check.versions(d, "k"), 7);
        d.close(0);
        due("7 nor one of an iterator", Check.versions(d, "k"), 6);
        KeyDrive e = new KeyDrive();
        Check.put(e, "k", "v");
        e.snap(0);
        Check.remove(e, "k");
        e.snap(1);
        Check.put(e, "k", "w");
        due("7 removed between two", Check.versions(e, "k"), 3);
        e.unsnap(0);
        due("7 removed ahead of all goes", Check.versions(e, "k"), 1);
    }

    private static void version() {
        KeyDrive d = new KeyDrive();
        Check.put(d, "other", "v");
        Check.put(d, "k", "value");
        d.snap(0);
        Check.remove(d, "k");
        due("8 number", Check.version(d, "k", 0, 0), 2);
        due("8 page", Check.version(d, "k", 0, 1), 0);
        due("8 place", Check.version(d, "k", 0, 2), 10);
        due("8 size", Check.version(d, "k", 0, 3), 10);
        due("8 number of the removal", Check.version(d, "k", 1, 0), 3);
        due("8 it has no page", Check.version(d, "k", 1, 1), -1);
        due("8 nor a place", Check.version(d, "k", 1, 2), -1);
        due("8 nor a size", Check.version(d, "k", 1, 3), -1);
        due("8 not so many", Check.version(d, "k", 2, 0), -1);
        due("8 i below 0", Check.version(d, "k", -1, 0), -1);
        due("8 the tape is empty", d.count(7), 0);
        due("8 what ahead of k", d.version(9, 0, 4), -2);
        due("8 what -1", d.version(1, 0, -1), -2);
        due("8 more than there is", d.version(1, 0, 0), -3);
        due("8 k 0", d.version(0, 0, 0), -3);
    }

    private static void hash() {
        KeyDrive d = new KeyDrive();
        due("9 empty tape", d.hash(1), -3);
        Check.tape(d, "abc");
        due("9 k 0", d.hash(0), -3);
        due("9 k 9", d.hash(9), -3);
        due("9 (97 * 31 + 98) * 31 + 99 modulo 8191", d.hash(3), (97 * 961 + 98 * 31 + 99) % 8191);
        due("9 the tape is empty", d.count(7), 0);
        Check.tape(d, "\u00ff");
        due("9 of one byte", d.hash(1), 255);
        Check.tape(d, "\u00ff\u00ff\u00ff\u00ff\u00ff\u00ff\u00ff\u00ff");
        long h = 0;
        for (int i = 0; i < 8; i++) {
            h = (31 * h + 255) % 8191;
        }
        due("9 of eight bytes", d.hash(8), h);
    }

    private static void batch() {
        KeyDrive d = new KeyDrive();
        due("10 of no byte", d.batch(0), 0);
        due("10 can be undone", d.count(6), 1);
        due("10 n -1", d.batch(-1), -3);
        Check.tape(d, Check.deedPut("a", "xy"));
        due("10 n above what there is", d.batch(21), -3);
        due("10 refused, the tape stays", d.count(7), 20);
        due("10 a put", d.batch(6), 1);
        due("10 the tape is empty", d.count(7), 0);
        due("10 its value", Check.get(d, "a", -1), 2);
        due("10 removed, none, put, put", Check.batch(d, Check.deedRemove("a") + Check.deedRemove("a")
                + Check.deedPut("b", "1") + Check.deedPut("b", "2")), 3);
        due("10 SEQ", d.count(0), 4);
        due("10 one is seen", d.keys(-1), 1);
        Check.get(d, "b", -1);
        Check.due("10 the later one", Check.answer(d), "2");
        due("10 undone as a whole", d.undo(1), 2);
        due("10 as it was", Check.get(d, "a", -1), 2);
        due("10 no deed begins so", Check.batch(d, Check.deedPut("c", "") + "\3"), -31);
        due("10 none is done", Check.get(d, "c", -1), -1);
        due("10 nothing more can be undone", d.count(6), 2);
        due("10 key too long", Check.batch(d, "\1\11\0"), -33);
        due("10 key of no byte", Check.batch(d, "\2\0"), -33);
        due("10 value of 41", Check.batch(d, "\1\1\51a"), -33);
        due("10 the bytes end", Check.batch(d, "\1\1\2ab"), -32);
        due("10 the tape is empty behind faults", d.count(7), 0);
        due("10 of the greatest bounds", Check.batch(d, Check.deedPut("abcdefgh", "v".repeat(40))), 1);
        Check.tape(d, Check.deedPut("n", "") + Check.deedPut("o", ""));
        due("10 the first n alone", d.batch(4), 1);
        due("10 what is behind them isn't done", Check.get(d, "o", -1), -1);
    }

    private static void batchOrder() {
        // Buckets: a 1, b 2, c 3, d 4.
        KeyDrive d = new KeyDrive();
        Check.batch(d, Check.deedPut("a", "") + Check.deedRemove("b") + Check.deedPut("c", "")
                + Check.deedRemove("d"));
        due("10 touched in order", d.bucket(4, 0), 0);
        due("10 the one ahead", d.bucket(3, 0), 1);
        due("10 of a key that isn't seen, too", d.bucket(2, 0), 2);
        due("10 the first isn't hot any more", d.bucket(1, 0), -1);
        due("10 changed", d.bucket(3, 2), 1);
        due("10 not changed", d.bucket(4, 2), 0);
        due("10 a store", d.index(2), 1);
        due("10 loads", d.index(1), 4);
        KeyDrive e = Check.filled(23, 46);
        due("10 no room", Check.batch(e, Check.deedPut("a", "v".repeat(20)) + Check.deedPut("b", "v")), -4);
        due("10 then nothing is touched", e.index(1) + e.index(0), 23);
    }

    private static void batchWithoutRoom() {
        KeyDrive d = Check.filled(23, 46);
        due("10 the second doesn't fit", Check.batch(d, Check.deedPut("y", "v".repeat(13))
                + Check.deedPut("z", "v".repeat(13))), -4);
        due("10 the tape is empty then", d.count(7), 0);
        due("10 none is done", d.keys(-1), 23);
        due("10 SEQ", d.count(0), 23);
        due("10 no fault", d.fault(0), 0);
        due("10 no place", d.fault(1), -1);
        due("10 a removal makes room", Check.batch(d, Check.deedRemove(Check.key(3))
                + Check.deedPut("zz", "v".repeat(40))), 2);
        due("10 by sweeping", d.wear(2), 1);
    }

    private static void fault() {
        KeyDrive d = new KeyDrive();
        due("11 none at first", d.fault(0), 0);
        due("11 no place at first", d.fault(1), -1);
        due("11 others", d.fault(2), -1);
        due("11 below", d.fault(-1), -1);
        faultOf(d, "\0", 1, 0);
        faultOf(d, Check.deedPut("k", "v") + "\3", 1, 5);
        faultOf(d, Check.deedRemove("k") + "\u00ff", 1, 3);
        faultOf(d, "\1", 2, 1);
        faultOf(d, "\2", 2, 1);
        faultOf(d, "\1\1", 2, 2);
        faultOf(d, "\2\1", 2, 2);
        faultOf(d, "\1\1\0", 2, 3);
        faultOf(d, "\1\1\2kv", 2, 5);
        faultOf(d, "\2\2k", 2, 3);
        faultOf(d, "\1\0", 3, 1);
        faultOf(d, "\1\11\51", 3, 1);
        faultOf(d, "\2\u00ff", 3, 1);
        faultOf(d, "\1\1\51", 3, 2);
        faultOf(d, "\1\1\u00ff", 3, 2);
        due("11 a refused batch leaves it", d.batch(1), -3);
        due("11 fault", d.fault(0), 3);
        due("11 place", d.fault(1), 2);
        Check.tape(d, "k");
        d.hash(1);
        due("11 of the latest batch still", d.fault(0), 3);
        Check.put(d, "k", "v");
        d.undo(1);
        due("11 as the tape, it isn't undone", d.fault(0), 3);
        d.batch(0);
        due("11 of no byte", d.fault(0), 0);
        due("11 without a place", d.fault(1), -1);
    }

    private static void faultOf(KeyDrive d, String bytes, int fault, int place) {
        due("11 batch", Check.batch(d, bytes), -30 - fault);
        due("11 its fault", d.fault(0), fault);
        due("11 its place", d.fault(1), place);
        due("11 the tape is empty", d.count(7), 0);
    }

    private static void seek() {
        KeyDrive d = new KeyDrive();
        due("12 empty tape", d.seek(1), -3);
        seekFinds(d, "a", "");
        for (String key : new String[] {"b", "ba", "b\0", "\u00ff", "c"}) {
            Check.put(d, key, "value");
        }
        seekFinds(d, "a", "b");
        seekFinds(d, "b", "b");
        seekFinds(d, "b\0", "b\0");
        seekFinds(d, "b\0\0", "ba");
        seekFinds(d, "bb", "c");
        seekFinds(d, "d", "\u00ff");
        seekFinds(d, "\u00ff\0", "");
        Check.remove(d, "c");
        seekFinds(d, "bb", "\u00ff");
        Check.tape(d, "a");
        due("12 k 0", d.seek(0), -3);
        due("12 k 9", d.seek(9), -3);
    }

    private static void seekFinds(KeyDrive d, String from, String found) {
        Check.tape(d, from);
        due("12 seek", d.seek(from.length()), found.isEmpty() ? -1 : found.length());
        Check.due("12 its answer", Check.answer(d), found);
        due("12 the tape is empty", d.count(7), 0);
    }

    private static void between() {
        KeyDrive d = new KeyDrive();
        due("13 empty tape", d.between(1, 1), -3);
        for (String key : new String[] {"a", "ab", "b", "ba", "c"}) {
            Check.put(d, key, "");
        }
        betweenIs(d, "a", "c", 4);
        betweenIs(d, "ab", "b", 1);
        betweenIs(d, "aa", "ba", 2);
        betweenIs(d, "b", "b", 0);
        betweenIs(d, "c", "a", 0);
        betweenIs(d, "\0", "\u00ff\u00ff\u00ff\u00ff\u00ff\u00ff\u00ff\u00ff", 5);
        Check.remove(d, "b");
        betweenIs(d, "a", "c", 3);
        Check.tape(d, "abc");
        due("13 k 0", d.between(0, 1), -3);
        due("13 k 9", d.between(9, 1), -3);
        due("13 m 0", d.between(1, 0), -3);
        due("13 m 9", d.between(1, 9), -3);
        due("13 the tape stays", d.count(7), 20);
    }

    private static void betweenIs(KeyDrive d, String from, String to, int n) {
        Check.tape(d, from + to);
        due("13 between", d.between(from.length(), to.length()), n);
    }

    private static void diff() {
        KeyDrive d = new KeyDrive();
        due("14 snapshot -1", d.diff(-1, 0), -2);
        due("14 snapshot 4", d.diff(4, 0), -2);
        due("14 what 3", d.diff(0, 3), -2);
        due("14 what -1", d.diff(0, -1), -2);
        due("14 holds none", d.diff(0, 0), -6);
        for (String key : new String[] {"a", "b", "c", "d"}) {
            Check.put(d, key, "v");
        }
        d.snap(1);
        Check.remove(d, "a");
        Check.remove(d, "b");
        Check.put(d, "b", "v");
        Check.put(d, "c", "v");
        Check.put(d, "e", "v");
        Check.put(d, "f", "v");
        due("14 now, not then", d.diff(1, 0), 2);
        due("14 then, not now", d.diff(1, 1), 1);
        due("14 by other versions", d.diff(1, 2), 2);
        KeyDrive e = new KeyDrive();
        e.snap(0);
        Check.put(e, "a", "v");
        due("14 at moment 0, now, not then", e.diff(0, 0), 1);
        due("14 at moment 0, then, not now", e.diff(0, 1), 0);
        due("14 at moment 0, both", e.diff(0, 2), 0);
    }

    private static void roll() {
        KeyDrive d = new KeyDrive();
        due("15 snapshot -1", d.roll(-1), -2);
        due("15 snapshot 4", d.roll(4), -2);
        due("15 holds none", d.roll(3), -6);
        Check.put(d, "a", "one");
        Check.put(d, "b", "two");
        Check.put(d, "c", "three");
        d.snap(3);
        long sum = d.sum(-1);
        due("15 nothing to do", d.roll(3), 0);
        due("15 undoable all the same", d.count(6), 5);
        Check.remove(d, "b");
        Check.put(d, "c", "else");
        Check.put(d, "aa", "new");
        int loads = d.index(1);
        int hits = d.index(0);
        due("15 removed, put again, put again", d.roll(3), 3);
        due("15 seen as then", d.sum(-1), sum);
        due("15 SEQ", d.count(0), 9);
        due("15 rising: aa first", Check.version(d, "b", 2, 0), -1);
        due("15 then b", Check.version(d, "b", 1, 0), 8);
        due("15 then c", Check.version(d, "c", 1, 0), 9);
        due("15 aa is gone", Check.versions(d, "aa"), 0);
        due("15 touches no bucket", d.index(1) + d.index(0), loads + hits);
        due("15 undone as a whole", d.undo(1), 8);
        due("15 SEQ then", d.count(0), 6);
        due("15 aa is back", Check.get(d, "aa", -1), 3);
        KeyDrive e = new KeyDrive();
        e.snap(0);
        Check.put(e, "a", "");
        Check.put(e, "b", "");
        due("15 to moment 0", e.roll(0), 2);
        due("15 nothing is seen", e.keys(-1), 0);
        due("15 nothing stays", e.count(2), 0);
    }

    private static void rollWithoutRoom() {
        KeyDrive d = new KeyDrive();
        d.terms(0, 1);
        for (int i = 0; i < 12; i++) {
            Check.putSize(d, Check.key(i), 46);
        }
        d.snap(0);
        for (int i = 0; i < 12; i++) {
            Check.remove(d, Check.key(i));
        }
        due("15 all is old", d.space(1), 12 * 46);
        due("15 eleven fit, twelve don't", d.roll(0), -4);
        due("15 none is done", d.keys(-1), 0);
        due("15 SEQ as it was", d.count(0), 24);
        due("15 pages as they were", d.count(1), 12);
    }

    private static void keys() {
        KeyDrive d = new KeyDrive();
        due("16 at -2", d.keys(-2), -2);
        due("16 at 4", d.keys(4), -2);
        due("16 holds none", d.keys(3), -6);
        Check.put(d, "a", "");
        Check.put(d, "b", "");
        d.snap(3);
        Check.remove(d, "a");
        Check.remove(d, "b");
        Check.put(d, "c", "");
        due("16 now", d.keys(-1), 1);
        due("16 then", d.keys(3), 2);
        KeyDrive e = new KeyDrive();
        e.snap(0);
        Check.put(e, "a", "");
        due("16 at moment 0", e.keys(0), 0);
        due("16 nothing is summed then", e.sum(0), 7);
    }

    private static void groups() {
        KeyDrive d = new KeyDrive();
        due("17 what ahead of n", d.groups(0, 2), -2);
        due("17 what -1", d.groups(1, -1), -2);
        due("17 n 0", d.groups(0, 0), -3);
        due("17 n 9", d.groups(9, 0), -3);
        due("17 without any", d.groups(1, 1), 0);
        for (String key : new String[] {"a", "ab", "abc", "abd", "ac", "b", "bb", "a\0", "a\0\0"}) {
            Check.put(d, key, "");
        }
        due("17 first bytes", d.groups(1, 0), 2);
        due("17 most have a", d.groups(1, 1), 7);
        due("17 two bytes", d.groups(2, 0), 4);
        due("17 most have ab", d.groups(2, 1), 3);
        due("17 three bytes", d.groups(3, 0), 3);
        due("17 one each", d.groups(3, 1), 1);
        due("17 none so long", d.groups(8, 0), 0);
        Check.remove(d, "abd");
        due("17 one is gone", d.groups(2, 1), 2);
    }

    private static void alike() {
        KeyDrive d = new KeyDrive();
        due("18 what 2", d.alike(2), -2);
        due("18 what -1", d.alike(-1), -2);
        due("18 without any", d.alike(0), 0);
        Check.put(d, "abcd", "");
        due("18 one alone", d.alike(0), 4);
        due("18 there are no two", d.alike(1), 0);
        Check.put(d, "abc", "");
        due("18 all have", d.alike(0), 3);
        due("18 two have", d.alike(1), 3);
        Check.put(d, "abxyz", "");
        Check.put(d, "abxyw", "");
        due("18 all four have", d.alike(0), 2);
        due("18 the most of two", d.alike(1), 4);
        Check.put(d, "b", "");
        due("18 nothing", d.alike(0), 0);
        Check.remove(d, "b");
        due("18 again", d.alike(0), 2);
        KeyDrive e = new KeyDrive();
        Check.put(e, "a\0\0", "");
        Check.put(e, "a\0", "");
        due("18 no byte beyond a key's own", e.alike(0), 2);
    }

    private static void sum() {
        KeyDrive d = new KeyDrive();
        due("19 at -2", d.sum(-2), -2);
        due("19 at 4", d.sum(4), -2);
        due("19 holds none", d.sum(0), -6);
        due("19 without any", d.sum(-1), 7);
        Check.put(d, "b", "\u00ff");
        d.snap(0);
        Check.put(d, "a", "");
        long first = (((7L * 31 + 98) * 31 + 1) * 31) + 255;
        due("19 key, how many bytes, value", d.sum(0), first);
        long both = (7L * 31 + 97) * 31;
        both = ((both * 31 + 98) * 31 + 1) * 31 + 255;
        due("19 rising", d.sum(-1), both);
        Check.put(d, "zzzzzzzz", "v".repeat(40));
        long all = both;
        for (int i = 0; i < 8; i++) {
            all = 31 * all + 'z';
        }
        all = 31 * all + 40;
        for (int i = 0; i < 40; i++) {
            all = 31 * all + 'v';
        }
        due("19 as longs", d.sum(-1), all);
    }
}
