import java.math.BigInteger;

/** The sentences of promises 1 to 19, with the boundary cases that they name. */
public final class KeysEdgeTest {
    private static final int[] WILD = {Integer.MIN_VALUE, Integer.MIN_VALUE + 1, -3, -2, Integer.MAX_VALUE - 1,
        Integer.MAX_VALUE};

    public static void main(String[] args) {
        newObject();
        feed();
        put();
        putWithoutRoom();
        get();
        answer();
        remove();
        versions();
        version();
        hash();
        batch();
        batchTouches();
        batchFaults();
        batchFirstFault();
        batchWithoutRoom();
        fault();
        seek();
        between();
        diff();
        roll();
        rollWithoutRoom();
        keys();
        groups();
        alike();
        sum();
        Edge.end();
    }

    private static void due(String what, long got, long want) {
        Edge.due(what, got, want);
    }

    private static void newObject() {
        Edge.promise(1);
        Edge.says("No KEYS.");
        KeyDrive d = new KeyDrive();
        due("keys", d.keys(-1), 0);
        due("versions", d.count(2), 0);
        due("SEQ", d.count(0), 0);
        due("free pages", d.count(1), 24);
        due("undone", d.count(6), 0);
        due("the tape", d.count(7), 0);
        due("the answer", d.count(8), 0);
        KeyDrive e = new KeyDrive();
        Check.put(e, "k", "v");
        due("another object has none of it", d.keys(-1), 0);
        due("nor a page", d.count(1), 24);
    }

    private static void feed() {
        Edge.promise(2);
        Edge.says("Twenty bytes come behind those on THE TAPE, the highest of each int first: how many it has.");
        KeyDrive d = new KeyDrive();
        due("on an empty one", d.feed(0x00017f80, 0xff000000, Integer.MIN_VALUE, Integer.MAX_VALUE, -1), 20);
        due("behind them", d.feed(0x41424344, 0x45464748, 0x494a4b4c, 0x4d4e4f50, 0x51525354), 40);
        due("a key and all the others", d.put(1, 39), 1);
        due("the key is byte 0", Check.get(d, "\0", -1), 39);
        Edge.due("bytes in order", Check.answer(d), "\1\u007f\u0080\u00ff\0\0\0\u0080\0\0\0\u007f\u00ff\u00ff\u00ff"
                + "\u00ff\u00ff\u00ff\u00ffABCDEFGHIJKLMNOPQRST");
        Edge.says("-4: it would have more than 60.");
        for (int n = 20; n <= 60; n += 20) {
            due("up to sixty", d.feed(0x61626364, n, n, n, n), n);
        }
        due("more", d.feed(1, 2, 3, 4, 5), -4);
        due("sixty still", d.count(7), 60);
        due("its first byte still", d.hash(1), 'a');
        due("empty again: twenty", d.feed(1, 2, 3, 4, 5), 20);
    }

    private static void put() {
        Edge.promise(3);
        Edge.says("A KEY of k bytes has a VALUE of v bytes: its SEQ.");
        KeyDrive d = new KeyDrive();
        due("the least", Check.put(d, "k", ""), 1);
        due("of no byte", Check.get(d, "k", -1), 0);
        due("the greatest", Check.put(d, "kkkkkkkk", "0123456789012345678901234567890123456789"), 2);
        due("of forty", Check.get(d, "kkkkkkkk", -1), 40);
        due("another value", Check.put(d, "k", "w"), 3);
        due("the later one", Check.get(d, "k", -1), 1);
        due("no other key", d.keys(-1), 2);
        Edge.says("-3: k, v, more than there is;");
        Check.tape(d, "abcdefghijklmnopqrst");
        for (int k : new int[] {Integer.MIN_VALUE, -1, 0, 9, Integer.MAX_VALUE}) {
            due("k " + k, d.put(k, 0), -3);
        }
        for (int v : new int[] {Integer.MIN_VALUE, -1, 41, Integer.MAX_VALUE - 7, Integer.MAX_VALUE}) {
            due("v " + v, d.put(8, v), -3);
        }
        due("one more than there is", d.put(1, 20), -3);
        due("one more with eight", d.put(8, 13), -3);
        due("just as many", d.put(8, 12), 4);
        due("on an empty tape", d.put(1, 0), -3);
        Check.tape(d, "abcdefghijklmnopqrstabcdefghijklmnopqrst");
        due("one more than forty", d.put(1, 40), -3);
        due("forty", d.put(1, 39), 5);
    }

    private static void putWithoutRoom() {
        Edge.says("-4.");
        due("full", Setups.full().put(2, 40), -4);
        due("one that is there", fullWith(Check.key(7)).put(2, 40), -4);
        due("the least that doesn't fit", Setups.full().put(2, 13), -4);
        due("the greatest that fits", Setups.full().put(2, 12), 24);
        KeyDrive d = fullWith(Check.key(7));
        due("that fits, of one that is there", d.put(2, 12), 24);
        due("its old record makes room for the next", Check.putSize(d, "zz", 46), 25);
        due("by sweeping", d.wear(2), 1);
    }

    private static KeyDrive fullWith(String key) {
        KeyDrive d = Check.filled(23, 46);
        Check.tape(d, key + "w".repeat(58));
        return d;
    }

    private static void get() {
        Edge.promise(4);
        Edge.says("The VALUE of a KEY, SEEN now (at NONE) or at the MOMENT of a SNAPSHOT (at 0 to 3): how many bytes, it is"
                + " THE ANSWER.");
        KeyDrive d = new KeyDrive();
        for (int s = 0; s < 4; s++) {
            Check.put(d, "k", "value".substring(s));
            d.snap(s);
        }
        Check.put(d, "k", "");
        for (int s = 0; s < 4; s++) {
            due("at " + s, Check.get(d, "k", s), 5 - s);
            Edge.due("its value", Check.answer(d), "value".substring(s));
        }
        due("now, of no byte", Check.get(d, "k", -1), 0);
        due("no byte of an answer", d.count(8), 0);
        Edge.says("NONE: it isn't SEEN;");
        due("no such key", Check.get(d, "kk", -1), -1);
        due("nor its beginning", Check.get(d, "\0", -1), -1);
        Check.remove(d, "k");
        due("removed", Check.get(d, "k", -1), -1);
        due("not then", Check.get(d, "k", 3), 2);
        Check.put(d, "l", "v");
        due("not there then", Check.get(d, "l", 3), -1);
        due("none behind that", d.count(8), 0);
        Edge.says("-2: at;");
        Check.tape(d, "k");
        for (int at : WILD) {
            due("at " + at, d.get(1, at), -2);
        }
        due("at 4", d.get(1, 4), -2);
        Edge.says("-3: k, more than there is;");
        due("k 0", d.get(0, -1), -3);
        due("k 9", d.get(9, -1), -3);
        due("k -1", d.get(-1, 0), -3);
        d.batch(0);
        due("more than there is", d.get(1, -1), -3);
        Edge.says("-6: that SNAPSHOT has none.");
        d.unsnap(3);
        Check.tape(d, "k");
        due("it holds no more", d.get(1, 3), -6);
        due("another does", d.get(1, 2), 3);
    }

    private static void answer() {
        Edge.promise(5);
        Edge.says("Byte i (0 to 255) of THE ANSWER.");
        KeyDrive d = new KeyDrive();
        String forty = "\0\1\u007f\u0080\u00fe\u00ff" + "v".repeat(33) + "\u0081";
        Check.put(d, "k", forty);
        Check.get(d, "k", -1);
        for (int i = 0; i < 40; i++) {
            due("byte " + i, d.answer(i), forty.charAt(i));
        }
        Edge.says("NONE: not so many, i is below 0.");
        due("byte 40", d.answer(40), -1);
        due("byte -1", d.answer(-1), -1);
        for (int i : WILD) {
            due("byte " + i, d.answer(i), -1);
        }
        Check.tape(d, "k");
        d.seek(1);
        due("of a key: its byte", d.answer(0), 'k');
        due("nothing of the longer answer ahead", d.answer(1), -1);
        Check.get(d, "l", -1);
        due("without an answer", d.answer(0), -1);
    }

    private static void remove() {
        Edge.promise(6);
        Edge.says("A KEY is REMOVED: how many bytes are DEAD by that.");
        KeyDrive d = new KeyDrive();
        Check.put(d, "k", "");
        due("the least record", Check.remove(d, "k"), 6);
        Check.put(d, "kkkkkkkk", "v".repeat(40));
        due("the greatest", Check.remove(d, "kkkkkkkk"), 52);
        Check.put(d, "k", "old");
        d.snap(0);
        due("held: none", Check.remove(d, "k"), 0);
        Check.put(d, "k", "newer");
        due("the newer one isn't held", Check.remove(d, "k"), 10);
        due("the older one stays", Check.get(d, "k", 0), 3);
        Check.put(d, "k", "x");
        d.snap(1);
        due("held by the other", Check.remove(d, "k"), 0);
        Edge.says("NONE: it isn't SEEN now;");
        due("removed", Check.remove(d, "k"), -1);
        due("never there", Check.remove(d, "l"), -1);
        due("its beginning alone is", Check.remove(d, "kk"), -1);
        due("SEQ stays", d.count(0), 10);
        Edge.says("-3: k, more than there is.");
        Check.tape(d, "k");
        due("k 0", d.remove(0), -3);
        due("k 9", d.remove(9), -3);
        due("k -1", d.remove(-1), -3);
        d.batch(0);
        due("more than there is", d.remove(1), -3);
    }

    private static void versions() {
        Edge.promise(7);
        Edge.says("How many VERSIONS of a KEY stay.");
        KeyDrive d = new KeyDrive();
        due("of none", Check.versions(d, "k"), 0);
        Check.put(d, "k", "");
        due("one", Check.versions(d, "k"), 1);
        d.snap(0);
        due("held and the latest: one", Check.versions(d, "k"), 1);
        Check.remove(d, "k");
        due("with the removal", Check.versions(d, "k"), 2);
        d.unsnap(0);
        due("none stay", Check.versions(d, "k"), 0);
        Edge.says("-3.");
        due("more than there is", d.versions(1), -3);
        Check.tape(d, "k");
        due("k 0", d.versions(0), -3);
        due("k 9", d.versions(9), -3);
        due("k 8 of one that isn't there", d.versions(8), 0);
    }

    private static void version() {
        Edge.promise(8);
        Edge.says("Of the i-th VERSION of a KEY that stays, the eldest first, what 0: its number, 1: the PAGE of its RECORD"
                + " (NONE: REMOVED), 2: the place there of its first byte (so), 3: its SIZE (so).");
        KeyDrive d = new KeyDrive();
        Check.putSize(d, "xx", 46);
        Check.putSize(d, "kk", 18);
        d.snap(0);
        Check.remove(d, "kk");
        d.snap(1);
        Check.putSize(d, "kk", 6);
        int[][] want = {{2, 0, 46, 18}, {3, -1, -1, -1}, {4, 1, 0, 6}};
        for (int i = 0; i < 3; i++) {
            for (int what = 0; what < 4; what++) {
                due("version " + i + ", what " + what, Check.version(d, "kk", i, what), want[i][what]);
            }
        }
        Edge.says("NONE: not so many, i is below 0;");
        for (int what = 0; what < 4; what++) {
            due("the fourth", Check.version(d, "kk", 3, what), -1);
            due("-1", Check.version(d, "kk", -1, what), -1);
        }
        for (int i : WILD) {
            due("i " + i, Check.version(d, "kk", i, 0), -1);
        }
        due("of a key that isn't there", Check.version(d, "k", 0, 0), -1);
        Edge.says("-2: what;");
        Check.tape(d, "kk");
        due("what 4", d.version(2, 0, 4), -2);
        due("what -1", d.version(2, 0, -1), -2);
        due("what is far off", d.version(2, 0, Integer.MIN_VALUE), -2);
        Edge.says("-3.");
        due("k 0", d.version(0, 0, 0), -3);
        due("k 9", d.version(9, 0, 0), -3);
        d.batch(0);
        due("more than there is", d.version(1, 0, 0), -3);
    }

    private static void hash() {
        Edge.promise(9);
        Edge.says("HASH of a KEY.");
        KeyDrive d = new KeyDrive();
        Check.tape(d, "ab");
        due("97 * 31 + 98", d.hash(2), 3105);
        Check.tape(d, "ab");
        due("its first byte alone", d.hash(1), 97);
        due("of a key that isn't there, nothing comes", d.keys(-1), 0);
        Edge.says("-3.");
        due("more than there is", d.hash(1), -3);
        Check.tape(d, "ab");
        due("k 0", d.hash(0), -3);
        due("k 9", d.hash(9), -3);
        due("k 8", d.hash(8) < 0 ? 1 : 0, 0);
    }

    private static void batch() {
        Edge.promise(10);
        Edge.says("The first n bytes of THE TAPE (which is empty then) are DEEDS: 1, k, v, the k bytes of a KEY, the v of its"
                + " VALUE: a PUT; 2, k, the k of a KEY: it is REMOVED, if it is SEEN now (else nothing): how many PUTS and"
                + " KEYS REMOVED;");
        KeyDrive d = new KeyDrive();
        due("of no byte", d.batch(0), 0);
        Check.tape(d, Check.deedPut("a", "x"));
        due("of no byte, though there are", d.batch(0), 0);
        due("the tape is empty", d.count(7), 0);
        due("nothing is put", d.keys(-1), 0);
        String deeds = Check.deedPut("a", "") + Check.deedRemove("a") + Check.deedRemove("a") + Check.deedPut("b", "yz")
                + Check.deedRemove("c") + Check.deedPut("b", "w");
        Check.tape(d, deeds + Check.deedPut("n", ""));
        due("put, removed, nothing, put, nothing, put", d.batch(deeds.length()), 4);
        due("the tape is empty then", d.count(7), 0);
        due("each has a number", d.count(0), 4);
        due("what comes behind n isn't done", d.keys(-1), 1);
        due("a later one sees what an earlier one put", Check.version(d, "b", 0, 0), 4);
        Check.get(d, "b", -1);
        Edge.due("its value", Check.answer(d), "w");
        StringBuilder least = new StringBuilder();
        for (int i = 0; i < 20; i++) {
            least.append(Check.deedRemove("" + (char) i));
        }
        due("sixty bytes: twenty of the shortest", Check.batch(d, least.toString()), 0);
        Check.put(d, "\23", "");
        due("the twentieth is done", Check.batch(d, least.toString()), 1);
        due("sixty bytes: fifteen puts of the shortest", Check.batch(d, Check.deedPut("p", "").repeat(15)), 15);
        due("the greatest", Check.batch(d, Check.deedPut("12345678", "v".repeat(40))), 1);
        due("of forty", Check.get(d, "12345678", -1), 40);
        due("a put and as many bytes as sixty", Check.batch(d, Check.deedPut("12345678", "v".repeat(40))
                + Check.deedRemove("1234567")), 1);
    }

    private static void batchTouches() {
        Edge.says("their BUCKETS are TOUCHED (of a KEY that isn't SEEN, too), CHANGED in order behind all.");
        KeyDrive d = new KeyDrive();
        Check.batch(d, Check.deedPut("a", "") + Check.deedRemove("b") + Check.deedPut("c", "") + Check.deedRemove("d")
                + Check.deedRemove("a"));
        due("touched: a, b, c, d, a", d.index(1), 5);
        due("a went ahead of d, changed", d.index(2), 1);
        due("the last is the first", d.bucket(1, 0), 0);
        due("changed by its removal", d.bucket(1, 2), 1);
        due("of a key that isn't seen", d.bucket(4, 0), 1);
        due("not changed", d.bucket(4, 2), 0);
        due("the third", d.bucket(3, 0), 2);
        due("changed by its put", d.bucket(3, 2), 1);
        KeyDrive e = new KeyDrive();
        due("a fault behind a put", Check.batch(e, Check.deedPut("a", "") + "\0"), -31);
        due("touches none", e.index(1), 0);
        KeyDrive full = Setups.full();
        full.batch(0);
        int touched = full.index(0) + full.index(1);
        due("no room", Check.batch(full, Check.deedRemove("h") + Check.deedPut("hh", "v".repeat(20))), -4);
        due("touches none", full.index(0) + full.index(1), touched);
    }

    private static void batchFaults() {
        Edge.says("-3: n is below 0, above what there is;");
        KeyDrive d = new KeyDrive();
        due("-1", d.batch(-1), -3);
        due("1 of none", d.batch(1), -3);
        Check.tape(d, Check.deedPut("a", ""));
        due("21 of 20", d.batch(21), -3);
        due("far below", d.batch(Integer.MIN_VALUE), -3);
        due("far above", d.batch(Integer.MAX_VALUE), -3);
        due("the tape stays", d.count(7), 20);
        due("20 of 20: the zeros behind are a fault", d.batch(20), -31);
        Edge.says("-30 less the FAULT, the first along the bytes: 1 no DEED begins so,");
        for (int begin : new int[] {0, 3, 127, 128, 129, 130, 255}) {
            faulty("begins by " + begin, "" + (char) begin, 1, 0);
            faulty("a deed, then " + begin, Check.deedRemove("a") + (char) begin, 1, 3);
        }
        Edge.says("2 the bytes end too early (its place: n),");
        String put = Check.deedPut("12345678", "v".repeat(40));
        for (int n = 1; n < put.length(); n++) {
            faulty("a put ends at " + n, put.substring(0, n), 2, n);
        }
        String removal = Check.deedRemove("12345678");
        for (int n = 1; n < removal.length(); n++) {
            faulty("a removal ends at " + n, removal.substring(0, n), 2, n);
        }
        faulty("the bytes behind n don't count: a value's", Check.deedPut("a", "xy"), 5, 2, 5);
        faulty("a wrong k behind n", "\1\11", 1, 2, 1);
        faulty("a wrong v behind n", "\1\1\51", 2, 2, 2);
        Edge.says("3 k, v not within their bounds (THE TAPE is empty then);");
        for (int k : new int[] {0, 9, 127, 128, 129, 255}) {
            faulty("a put with k " + k, "\1" + (char) k, 3, 1);
            faulty("a removal with k " + k, "\2" + (char) k, 3, 1);
        }
        for (int v : new int[] {41, 127, 128, 255}) {
            faulty("a put with v " + v, "\1\1" + (char) v, 3, 2);
        }
        due("k 1, v 0 are within", Check.batch(new KeyDrive(), "\1\1\0k"), 1);
        due("k 8, v 40 are within", Check.batch(new KeyDrive(), put), 1);
        due("removals of 1 and 8", Check.batch(new KeyDrive(), Check.deedRemove("k") + removal), 0);
    }

    private static void batchFirstFault() {
        faulty("k ahead of v", "\1\11\51k", 3, 1);
        faulty("v ahead of the end", "\1\10\51", 3, 2);
        faulty("k ahead of the end", "\1\0", 3, 1);
        faulty("k ahead of what begins the next", "\1\0\0\3", 3, 1);
        faulty("the end of the first ahead of a second", "\2\10a\3", 2, 4);
        faulty("the first of two", Check.deedPut("a", "") + "\3" + "\1\11", 1, 4);
        faulty("behind a put", Check.deedPut("a", "xy") + "\1\1\51", 3, 8);
    }

    private static void faulty(String what, String bytes, int fault, int place) {
        faulty(what, bytes, bytes.length(), fault, place);
    }

    private static void faulty(String what, String bytes, int n, int fault, int place) {
        KeyDrive d = Setups.rich();
        d.batch(0);
        String state = Print.ofState(d);
        Check.tape(d, bytes);
        due(what, d.batch(n), -30 - fault);
        due(what + ": fault", d.fault(0), fault);
        due(what + ": place", d.fault(1), place);
        due(what + ": the tape is empty", d.count(7), 0);
        due(what + ": SEQ", d.count(0), 8);
        due(what + ": undone", d.count(6), 10);
        KeyDrive same = Setups.rich();
        same.batch(0);
        Edge.due(what + ": nothing is done", Print.difference(state, Print.ofState(same)), "");
    }

    private static void batchWithoutRoom() {
        Edge.says("-4: no room for one (so; none is done).");
        KeyDrive d = Setups.full();
        d.batch(0);
        String deeds = Check.deedRemove(Check.key(3)) + Check.deedPut("a", "") + Check.deedPut("b", "v".repeat(40));
        due("the first removal makes room", Check.batch(d, deeds), 3);
        due("by sweeping", d.wear(2), 1);
        KeyDrive e = Setups.full();
        e.batch(0);
        due("the last has none", Check.batch(e, Check.deedPut("a", "") + Check.deedPut("b", "v".repeat(25))), -4);
        due("the tape is empty", e.count(7), 0);
        due("without a fault", e.fault(0), 0);
        due("nor its place", e.fault(1), -1);
        KeyDrive same = Setups.full();
        same.batch(0);
        Edge.due("none is done", Print.difference(Print.ofAll(e), Print.ofAll(same)), "");
        KeyDrive f = Setups.full();
        f.batch(0);
        due("what was put and removed gives its bytes back", Check.batch(f, Check.deedPut("a", "v".repeat(13))
                + Check.deedRemove("a") + Check.deedPut("b", "v".repeat(13))), 3);
        due("by sweeping", f.wear(2), 1);
        KeyDrive g = Setups.full();
        g.batch(0);
        due("but no more", Check.batch(g, Check.deedPut("a", "v".repeat(13)) + Check.deedRemove("a")
                + Check.deedPut("b", "v".repeat(15))), -4);
        due("swept in vain: nothing is", g.wear(2), 0);
    }

    private static void fault() {
        Edge.promise(11);
        Edge.says("Of the latest batch() that emptied THE TAPE (be it of no byte), what 0: its FAULT (0), 1: its place"
                + " (NONE).");
        KeyDrive d = new KeyDrive();
        faultIs(d, "without a batch", 0, -1);
        Check.batch(d, "\1");
        faultIs(d, "at the end", 2, 1);
        Check.batch(d, Check.deedPut("a", ""));
        faultIs(d, "behind one without", 0, -1);
        Check.batch(d, "\0");
        faultIs(d, "at place 0", 1, 0);
        d.batch(0);
        faultIs(d, "behind one of no byte", 0, -1);
        Check.batch(d, Check.deedPut("a", "") + "\2\0");
        faultIs(d, "at place 5", 3, 5);
        Check.tape(d, Check.deedPut("a", ""));
        d.batch(-1);
        d.batch(21);
        faultIs(d, "behind refused ones that left the tape", 3, 5);
        d.put(1, 1);
        faultIs(d, "behind another call that emptied it", 3, 5);
        KeyDrive full = Setups.full();
        full.batch(60);
        faultIs(full, "of sixty bytes", 1, 0);
        Check.batch(full, Check.deedPut("b", "v".repeat(40)));
        faultIs(full, "behind one without room", 0, -1);
        Edge.says("NONE for others.");
        Check.batch(d, "\1");
        due("what 2", d.fault(2), -1);
        due("what -1", d.fault(-1), -1);
        for (int what : WILD) {
            due("what " + what, d.fault(what), -1);
        }
    }

    private static void faultIs(KeyDrive d, String what, int fault, int place) {
        due(what + ": fault", d.fault(0), fault);
        due(what + ": place", d.fault(1), place);
    }

    private static void seek() {
        Edge.promise(12);
        Edge.says("The first KEY SEEN now that isn't ahead of a KEY: how many bytes, it is THE ANSWER.");
        KeyDrive d = new KeyDrive();
        for (String key : new String[] {"b", "b\0", "bb", "\u0080", "12345678"}) {
            Check.put(d, key, "value");
        }
        finds(d, "\0", "12345678");
        finds(d, "12345678", "12345678");
        finds(d, "12345679", "b");
        finds(d, "b", "b");
        finds(d, "b\0", "b\0");
        finds(d, "b\0\0", "bb");
        finds(d, "ba", "bb");
        finds(d, "bc", "\u0080");
        finds(d, "\u007f", "\u0080");
        Edge.says("NONE: there is none;");
        finds(d, "\u0080\0", "");
        finds(d, "\u00ff\u00ff\u00ff\u00ff\u00ff\u00ff\u00ff\u00ff", "");
        d.snap(0);
        Check.remove(d, "\u0080");
        finds(d, "bc", "");
        finds(new KeyDrive(), "\0", "");
        Edge.says("-3.");
        due("more than there is", d.seek(1), -3);
        Check.tape(d, "k");
        due("k 0", d.seek(0), -3);
        due("k 9", d.seek(9), -3);
    }

    private static void finds(KeyDrive d, String from, String found) {
        Check.tape(d, from);
        due("from " + from, d.seek(from.length()), found.isEmpty() ? -1 : found.length());
        Edge.due("the answer", Check.answer(d), found);
    }

    private static void between() {
        Edge.promise(13);
        Edge.says("How many KEYS SEEN now aren't ahead of the KEY of k bytes, but are ahead of that of the next m bytes.");
        KeyDrive d = new KeyDrive();
        due("of none", between(d, "\0", "\u00ff"), 0);
        for (String key : new String[] {"a", "ab", "b", "c", "\u0080"}) {
            Check.put(d, key, "");
        }
        due("the first counts, the last doesn't", between(d, "a", "c"), 3);
        due("behind the first", between(d, "a\0", "c"), 2);
        due("with the last", between(d, "a", "c\0"), 4);
        due("all", between(d, "\0", "\u00ff"), 5);
        due("the same", between(d, "b", "b"), 0);
        due("the second is ahead", between(d, "c", "a"), 0);
        due("the first is behind all", between(d, "\u0081", "\u00ff"), 0);
        d.snap(0);
        Check.remove(d, "b");
        due("seen now", between(d, "a", "c"), 2);
        due("eight and eight", between(d, "aaaaaaaa", "bbbbbbbb"), 1);
        Edge.says("-3: k, m, more than there is.");
        due("empty", d.between(1, 1), -3);
        Check.tape(d, "abcdefghijklmnopqrst");
        for (int k : new int[] {Integer.MIN_VALUE, -1, 0, 9, Integer.MAX_VALUE}) {
            due("k " + k, d.between(k, 1), -3);
            due("m " + k, d.between(1, k), -3);
        }
        due("both", d.between(Integer.MAX_VALUE, Integer.MAX_VALUE), -3);
        due("the tape stays", d.count(7), 20);
        due("within", d.between(8, 8) < 0 ? 1 : 0, 0);
    }

    private static int between(KeyDrive d, String from, String to) {
        Check.tape(d, from + to);
        return d.between(from.length(), to.length());
    }

    private static void diff() {
        Edge.promise(14);
        Edge.says("What 0: KEYS SEEN now, not at the MOMENT of a SNAPSHOT (0 to 3), 1: at that, not now, 2: at both, by other"
                + " VERSIONS.");
        KeyDrive d = new KeyDrive();
        d.snap(0);
        Check.put(d, "a", "v");
        Check.put(d, "b", "v");
        Check.put(d, "c", "v");
        d.snap(3);
        diffs(d, 3, 0, 0, 0);
        Check.put(d, "a", "v");
        Check.remove(d, "b");
        Check.put(d, "d", "v");
        diffs(d, 3, 1, 1, 1);
        diffs(d, 0, 3, 0, 0);
        Check.put(d, "b", "v");
        diffs(d, 3, 1, 0, 2);
        Check.remove(d, "d");
        diffs(d, 3, 0, 0, 2);
        Edge.says("-2: the SNAPSHOT, what;");
        due("-1", d.diff(-1, 0), -2);
        due("4", d.diff(4, 0), -2);
        due("what -1", d.diff(0, -1), -2);
        due("what 3", d.diff(0, 3), -2);
        for (int wild : WILD) {
            due("snapshot " + wild, d.diff(wild, 0), -2);
            due("what " + wild, d.diff(0, wild), -2);
        }
        Edge.says("-6.");
        due("1 holds none", d.diff(1, 0), -6);
        due("2 neither", d.diff(2, 2), -6);
    }

    private static void diffs(KeyDrive d, int at, int now, int then, int other) {
        due("now", d.diff(at, 0), now);
        due("then", d.diff(at, 1), then);
        due("by other versions", d.diff(at, 2), other);
    }

    private static void roll() {
        Edge.promise(15);
        Edge.says("All is SEEN now as at the MOMENT of a SNAPSHOT: KEY by KEY, rising, one that is SEEN now but wasn't is"
                + " REMOVED, one that was by another VERSION than now (or isn't now) is PUT with that VALUE: how many.");
        KeyDrive d = new KeyDrive();
        d.snap(0);
        due("nothing at all", d.roll(0), 0);
        Check.put(d, "b", "two");
        Check.put(d, "c", "three");
        Check.put(d, "d", "");
        d.snap(1);
        long sum = d.sum(-1);
        due("nothing to do", d.roll(1), 0);
        due("SEQ stays", d.count(0), 3);
        Check.remove(d, "b");
        Check.put(d, "c", "three");
        Check.put(d, "a", "one");
        Check.put(d, "e", "five");
        due("a, b, c, e", d.roll(1), 4);
        due("seen as then", d.sum(-1), sum);
        due("a was removed by 8", d.count(0), 11);
        due("b came by 9", Check.version(d, "b", 1, 0), 9);
        due("c by 10", Check.version(d, "c", 1, 0), 10);
        due("d stays", Check.version(d, "d", 0, 0), 3);
        due("e is gone", Check.versions(d, "e"), 0);
        due("the snapshot holds still", d.keys(1), 3);
        due("other versions with the same values", d.diff(1, 2), 2);
        due("once more: they are by other versions", d.roll(1), 2);
        due("to moment 0: all are removed", d.roll(0), 3);
        due("none is seen", d.keys(-1), 0);
        due("all come back", d.roll(1), 3);
        due("as then", d.sum(-1), sum);
        Edge.says("-2; -6;");
        due("-1", d.roll(-1), -2);
        due("4", d.roll(4), -2);
        for (int s : WILD) {
            due("" + s, d.roll(s), -2);
        }
        due("2 holds none", d.roll(2), -6);
        d.unsnap(1);
        due("1 holds no more", d.roll(1), -6);
    }

    private static void rollWithoutRoom() {
        Edge.says("-4: no room for one (none is done).");
        Print.refused("no room for the first", Setups::fullOfOld, d -> d.roll(1), -4);
        Print.refused("no room for the last", () -> oldHalf(12), d -> d.roll(0), -4);
        KeyDrive d = oldHalf(11);
        due("room for all", d.roll(0), 11);
        due("two are free", d.count(1), 2);
        due("old ones are held still", d.space(1), 11 * 46);
        Print.refused("a removal, then no room", () -> {
            KeyDrive e = oldHalf(12);
            Check.put(e, "\0", "new");
            return e;
        }, e -> e.roll(0), -4);
    }

    /** So many records are old, held by snapshot 0. */
    private static KeyDrive oldHalf(int n) {
        KeyDrive d = new KeyDrive();
        d.terms(0, 1);
        for (int i = 0; i < n; i++) {
            Check.putSize(d, Check.key(i), 46);
        }
        d.snap(0);
        for (int i = 0; i < n; i++) {
            Check.remove(d, Check.key(i));
        }
        return d;
    }

    private static void keys() {
        Edge.promise(16);
        Edge.says("How many KEYS are SEEN now (at NONE), at the MOMENT of a SNAPSHOT.");
        KeyDrive d = new KeyDrive();
        due("none", d.keys(-1), 0);
        d.snap(0);
        Check.put(d, "a", "");
        Check.put(d, "b", "");
        d.snap(3);
        Check.remove(d, "a");
        due("now", d.keys(-1), 1);
        due("at 0", d.keys(0), 0);
        due("at 3", d.keys(3), 2);
        KeyDrive many = new KeyDrive();
        for (int i = 0; i < 20; i++) {
            StringBuilder deeds = new StringBuilder();
            for (int j = 0; j < 12; j++) {
                deeds.append(Check.deedPut("" + (char) i + (char) j, ""));
            }
            due("twelve keys more", Check.batch(many, deeds.toString()), i < 19 ? 12 : -4);
        }
        due("228 keys", many.keys(-1), 228);
        Check.put(many, "y", "");
        due("two more fit", Check.put(many, "z", ""), 230);
        due("of the least size they fill 23 pages", Check.put(many, "zz", ""), -4);
        due("all are seen", many.keys(-1), 230);
        Edge.says("-2; -6.");
        due("at -2", d.keys(-2), -2);
        due("at 4", d.keys(4), -2);
        for (int at : WILD) {
            due("at " + at, d.keys(at), -2);
        }
        due("1 holds none", d.keys(1), -6);
        due("2 neither", d.keys(2), -6);
    }

    private static void groups() {
        Edge.promise(17);
        Edge.says("Of KEYS SEEN now that have n bytes (1 to 8) or more, what 0: how many unlike beginnings of n bytes they"
                + " have, 1: how many have the one that most have.");
        KeyDrive d = new KeyDrive();
        groupsAre(d, 1, 0, 0);
        for (String key : new String[] {"a", "ab", "abcdefgh", "abcdefgi", "b\0", "b\0\0", "\u00ff"}) {
            Check.put(d, key, "");
        }
        groupsAre(d, 1, 3, 4);
        groupsAre(d, 2, 2, 3);
        groupsAre(d, 3, 2, 2);
        groupsAre(d, 7, 1, 2);
        groupsAre(d, 8, 2, 1);
        d.snap(0);
        Check.remove(d, "abcdefgh");
        Check.remove(d, "abcdefgi");
        groupsAre(d, 2, 2, 2);
        groupsAre(d, 4, 0, 0);
        Edge.says("-2: what;");
        due("what -1", d.groups(1, -1), -2);
        due("what 2", d.groups(1, 2), -2);
        Edge.says("-3.");
        due("n 0", d.groups(0, 0), -3);
        due("n 9", d.groups(9, 1), -3);
        for (int n : WILD) {
            due("n " + n, d.groups(n, 0), -3);
            due("what " + n, d.groups(1, n), -2);
        }
    }

    private static void groupsAre(KeyDrive d, int n, int unlike, int most) {
        due("beginnings of " + n, d.groups(n, 0), unlike);
        due("most of " + n, d.groups(n, 1), most);
    }

    private static void alike() {
        Edge.promise(18);
        Edge.says("What 0: how many bytes all KEYS SEEN now have alike, from the first on (one alone: all of its; 0 without"
                + " any), 1: the most that two of them have so (0: there are no two).");
        KeyDrive d = new KeyDrive();
        alikes(d, 0, 0);
        Check.put(d, "abcdefgh", "");
        alikes(d, 8, 0);
        Check.put(d, "abcdefgi", "");
        alikes(d, 7, 7);
        Check.put(d, "abc", "");
        alikes(d, 3, 7);
        Check.put(d, "abx", "");
        alikes(d, 2, 7);
        Check.put(d, "b", "");
        alikes(d, 0, 7);
        d.snap(0);
        Check.remove(d, "b");
        Check.remove(d, "abcdefgi");
        alikes(d, 2, 3);
        Check.remove(d, "abcdefgh");
        Check.remove(d, "abc");
        alikes(d, 3, 0);
        Check.remove(d, "abx");
        alikes(d, 0, 0);
        KeyDrive e = new KeyDrive();
        Check.put(e, "\0\0", "");
        Check.put(e, "\0", "");
        alikes(e, 1, 1);
        Edge.says("-2.");
        due("what 2", d.alike(2), -2);
        due("what -1", d.alike(-1), -2);
        for (int what : WILD) {
            due("what " + what, d.alike(what), -2);
        }
    }

    private static void alikes(KeyDrive d, int all, int two) {
        due("all have", d.alike(0), all);
        due("two have", d.alike(1), two);
    }

    private static void sum() {
        Edge.promise(19);
        Edge.says("All KEYS SEEN now (at NONE), at the MOMENT of a SNAPSHOT, with VALUES, as a sum: at first 7; KEY by KEY,"
                + " byte by byte 31 times it and the byte; then, how many bytes the VALUE has, and byte by byte (as longs).");
        KeyDrive d = new KeyDrive();
        due("without any", d.sum(-1), 7);
        Check.put(d, "b", "\u0080");
        due("7, 98, 1, 128", d.sum(-1), ((7L * 31 + 98) * 31 + 1) * 31 + 128);
        d.snap(3);
        Check.put(d, "a", "");
        due("7, 97, 0, 98, 1, 128", d.sum(-1), ((((7L * 31 + 97) * 31 + 0) * 31 + 98) * 31 + 1) * 31 + 128);
        due("then", d.sum(3), ((7L * 31 + 98) * 31 + 1) * 31 + 128);
        String key = "\u00ff\u00fe\0\1\2\3\4\5";
        String value = "\u00ff".repeat(40);
        KeyDrive e = new KeyDrive();
        Check.put(e, key, value);
        due("it wraps around as a long does", e.sum(-1), wrapped(key, value));
        Edge.says("-2; -6.");
        due("at -2", d.sum(-2), -2);
        due("at 4", d.sum(4), -2);
        for (int at : WILD) {
            due("at " + at, d.sum(at), -2);
        }
        due("0 holds none", d.sum(0), -6);
        due("1 neither", d.sum(1), -6);
    }

    /** The sum without bounds, then its lowest 64 bits. */
    private static long wrapped(String key, String value) {
        BigInteger sum = BigInteger.valueOf(7);
        for (char c : (key + (char) value.length() + value).toCharArray()) {
            sum = sum.multiply(BigInteger.valueOf(31)).add(BigInteger.valueOf(c));
        }
        return sum.longValue();
    }
}
