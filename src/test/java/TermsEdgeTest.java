import java.util.List;
import java.util.function.ToLongFunction;

/** The sentences of the document's section "Terms", with the boundary cases that they name; ahead of them, its bound. */
public final class TermsEdgeTest {
    public static void main(String[] args) {
        Edge.use();
        calls();
        Edge.terms();
        boundsOfKeyAndValue();
        orderOfKeys();
        hash();
        versions();
        seen();
        held();
        whichStay();
        whichGo();
        pages();
        pageOfTen();
        lastPage();
        sizes();
        termsAtFirst();
        placeBehindEnd();
        placeByRule();
        placeOnFreePage();
        sweeping();
        sweepingToOthers();
        sweepingValues();
        putting();
        puttingBySweeping();
        puttingByChoice();
        puttingWithoutRoom();
        space();
        hot();
        touching();
        iterators();
        answer();
        undoable();
        undoableEach();
        undoneAndGoneOn();
        undoneWhole();
        leftByUndo();
        images();
        tape();
        fromZeroOn();
        refused();
        codes();
        order();
        constant();
        Edge.end();
    }

    private static void due(String what, long got, long want) {
        Edge.due(what, got, want);
    }

    private static void calls() {
        Edge.says("An object is used for at most 512 calls after it has been made; what later calls answer is free.");
        KeyDrive d = new KeyDrive();
        for (int calls = 0; calls < 508; calls += 4) {
            due("three feeds and fifteen puts", Check.batch(d, Check.deedPut("k", "").repeat(15)), 15);
        }
        due("the 509th call", d.feed(0x6b767676, 0, 0, 0, 0), 20);
        due("the 510th", d.put(1, 3), 127 * 15 + 1);
        due("the 511th", d.wear(0), 127 * 15 * 6 + 8);
        due("the 512th", d.count(0), 127 * 15 + 1);
    }

    // ---- keys and versions

    private static void boundsOfKeyAndValue() {
        Edge.says("A KEY: 1 to 8 bytes;");
        List<ToLongFunction<int[]>> calls = List.of(
                k -> fed().put(k[0], 0), k -> fed().get(k[0], -1), k -> fed().remove(k[0]), k -> fed().versions(k[0]),
                k -> fed().version(k[0], 0, 0), k -> fed().hash(k[0]), k -> fed().seek(k[0]),
                k -> fed().between(k[0], 1), k -> fed().between(1, k[0]));
        for (int i = 0; i < calls.size(); i++) {
            for (int k : new int[] {Integer.MIN_VALUE, -1, 0, 9, 20, 60, Integer.MAX_VALUE}) {
                due("call " + i + " with a key of " + k, calls.get(i).applyAsLong(new int[] {k}), -3);
            }
            for (int k : new int[] {1, 8}) {
                due("call " + i + " with a key of " + k,
                        calls.get(i).applyAsLong(new int[] {k}) == -3 ? 1 : 0, 0);
            }
        }
        Edge.says("a VALUE: 0 to 40 bytes.");
        for (int v : new int[] {Integer.MIN_VALUE, -1, 41, 52, Integer.MAX_VALUE}) {
            due("a value of " + v, fed().put(1, v), -3);
        }
        for (int v : new int[] {0, 1, 40}) {
            KeyDrive d = fed();
            due("a value of " + v, d.put(8, v), 1);
            due("is kept", Check.get(d, "abcdefgh", -1), v);
        }
    }

    /** Sixty bytes on the tape. */
    private static KeyDrive fed() {
        KeyDrive d = new KeyDrive();
        Check.tape(d, "abcdefgh" + "v".repeat(52));
        return d;
    }

    private static void orderOfKeys() {
        Edge.says("KEYS are ordered by their first unlike byte (0 to 255), one that is the beginning of another ahead of it.");
        String[] rising = {"\0", "\0\0", "\0\1", "\0\u00ff", "\1", "a", "a\0", "aa", "ab", "ab\0\0\0\0\0\0", "ab\0\0\0\0\0\1",
            "b", "\u007f", "\u0080", "\u0080\u007f", "\u0080\u0080", "\u00ff", "\u00ff\0",
            "\u00ff\u00ff\u00ff\u00ff\u00ff\u00ff\u00ff", "\u00ff\u00ff\u00ff\u00ff\u00ff\u00ff\u00ff\0",
            "\u00ff\u00ff\u00ff\u00ff\u00ff\u00ff\u00ff\u00ff"};
        KeyDrive d = new KeyDrive();
        for (int i = 0; i < rising.length; i++) {
            Check.put(d, rising[i * 8 % rising.length], "v");
        }
        due("all are there", Check.open(d, 0, "", -1), rising.length);
        for (String key : rising) {
            d.next(0);
            Edge.due("rising", Check.answer(d), key);
        }
    }

    private static void hash() {
        Edge.says("HASH of a KEY: h is 0; byte by byte it becomes (31 h and the byte) modulo 8191.");
        due("of byte 0", hashOf("\0"), 0);
        due("of eight bytes 0", hashOf("\0\0\0\0\0\0\0\0"), 0);
        due("of byte 255", hashOf("\u00ff"), 255);
        due("31 and 0", hashOf("\1\0"), 31);
        // 31 * (31 * 8 + 16) is 8184.
        due("one below 8191", hashOf("\10\20\6"), 8190);
        due("8191", hashOf("\10\20\7"), 0);
        due("one above it", hashOf("\10\20\10"), 1);
        due("from the greatest rest on", hashOf("\10\20\6\u00ff"), (31 * 8190 + 255) % 8191);
        Edge.says("BUCKET: HASH modulo 8.");
        for (int b = 0; b < 8; b++) {
            KeyDrive d = new KeyDrive();
            Check.put(d, "" + (char) (248 + b), "");
            due("of hash " + (248 + b), d.bucket(b, 1), 1);
        }
        KeyDrive d = new KeyDrive();
        Check.put(d, "\10\20\6", "");
        due("of hash 8190", d.bucket(6, 1), 1);
        Check.put(d, "\10\20\7", "");
        due("of hash 8191 modulo 8191", d.bucket(0, 1), 1);
    }

    private static int hashOf(String key) {
        KeyDrive d = new KeyDrive();
        Check.tape(d, key);
        return d.hash(key.length());
    }

    private static void versions() {
        Edge.says("VERSIONS of a KEY: each has a number (SEQ), and a RECORD, or none (REMOVED).");
        KeyDrive d = new KeyDrive();
        Check.put(d, "k", "v");
        d.snap(0);
        Check.remove(d, "k");
        numbers(d, "k", 1, 2);
        due("the first has a record", Check.version(d, "k", 0, 1), 0);
        due("the second has none", Check.version(d, "k", 1, 1), -1);
        Edge.says("SEQ of the drive is 0 at first; each PUT, and each removal of a KEY that is there, makes it one more:"
                + " the new VERSION's number.");
        KeyDrive e = new KeyDrive();
        due("at first", e.count(0), 0);
        due("a removal of a key that isn't there", Check.remove(e, "k"), -1);
        due("makes it no more", e.count(0), 0);
        due("a put", Check.put(e, "k", "v"), 1);
        due("another of the same key and value", Check.put(e, "k", "v"), 2);
        due("its number", Check.version(e, "k", 0, 0), 2);
        e.snap(0);
        Check.remove(e, "k");
        due("a removal", e.count(0), 3);
        due("the number of that", Check.version(e, "k", 1, 0), 3);
        due("of a key that is removed", Check.remove(e, "k"), -1);
        due("makes it no more, though versions stay", e.count(0), 3);
        e.put(1, 1);
        due("nor does a refused put", e.count(0), 3);
        e.roll(0);
        due("a put by roll() does", e.count(0), 4);
        Check.batch(e, Check.deedPut("l", "") + Check.deedRemove("l") + Check.deedRemove("l"));
        due("deeds do", e.count(0), 6);
    }

    /** The numbers of the versions of a key that stay. */
    private static void numbers(KeyDrive d, String key, int... want) {
        due("versions of " + key, Check.versions(d, key), want.length);
        for (int i = 0; i < want.length; i++) {
            due("number " + i + " of " + key, Check.version(d, key, i, 0), want[i]);
        }
    }

    private static void seen() {
        Edge.says("SEEN at a MOMENT m: of each KEY the VERSION with the greatest number up to m, if that has a RECORD.");
        KeyDrive d = new KeyDrive();
        d.snap(0);
        Check.put(d, "k", "one");
        d.snap(1);
        Check.put(d, "k", "two");
        Check.remove(d, "k");
        d.snap(2);
        Check.put(d, "k", "four");
        due("at the moment ahead of its first", Check.get(d, "k", 0), -1);
        due("at the moment of its first", Check.get(d, "k", 1), 3);
        Edge.due("by that version", Check.answer(d), "one");
        due("at the moment of its removal, though one with a record is ahead", Check.get(d, "k", 2), -1);
        due("keys at each", d.keys(0) * 100 + d.keys(1) * 10 + d.keys(2), 10);
        Edge.says("Now: at SEQ.");
        due("now", Check.get(d, "k", -1), 4);
        Check.remove(d, "k");
        due("removed now", Check.get(d, "k", -1), -1);
    }

    private static void held() {
        Edge.says("MOMENTS that are HELD: those of SNAPSHOTS 0 to 3 and of ITERATORS 0 to 2 (none at first).");
        KeyDrive none = new KeyDrive();
        Check.put(none, "k", "old");
        Check.put(none, "k", "new");
        due("none is held at first", Check.versions(none, "k"), 1);
        due("by no snapshot", none.count(4), 0);
        due("by no iterator", none.count(5), 0);
        for (int s = 0; s < 4; s++) {
            KeyDrive d = new KeyDrive();
            Check.put(d, "k", "old");
            d.snap(s);
            Check.put(d, "k", "new");
            numbers(d, "k", 1, 2);
            d.unsnap(s);
            numbers(d, "k", 2);
        }
        for (int i = 0; i < 3; i++) {
            KeyDrive d = new KeyDrive();
            Check.put(d, "k", "old");
            Check.open(d, i, "", -1);
            Check.put(d, "k", "new");
            numbers(d, "k", 1, 2);
            d.close(i);
            numbers(d, "k", 2);
        }
    }

    private static void whichStay() {
        Edge.says("Of VERSIONS those stay that are the latest of a KEY, or the one with the greatest number up to a MOMENT"
                + " that is HELD;");
        KeyDrive d = new KeyDrive();
        d.snap(3);
        Check.put(d, "k", "1");
        Check.put(d, "x", "2");
        numbers(d, "k", 1);
        d.snap(0);
        Check.put(d, "k", "3");
        numbers(d, "k", 1, 3);
        Check.put(d, "k", "4");
        numbers(d, "k", 1, 4);
        d.snap(1);
        Check.put(d, "k", "5");
        numbers(d, "k", 1, 4, 5);
        Check.put(d, "x", "6");
        Check.open(d, 2, "", -1);
        Check.put(d, "k", "7");
        numbers(d, "k", 1, 4, 5, 7);
        d.snap(2);
        Check.open(d, 0, "", -1);
        Check.put(d, "k", "8");
        numbers(d, "k", 1, 4, 5, 7, 8);
        d.unsnap(2);
        numbers(d, "k", 1, 4, 5, 7, 8);
        d.close(0);
        numbers(d, "k", 1, 4, 5, 8);
        d.close(2);
        numbers(d, "k", 1, 4, 8);
        d.unsnap(0);
        numbers(d, "k", 4, 8);
        d.unsnap(1);
        numbers(d, "k", 8);
        due("moment 0 holds nothing", d.unsnap(3), 0);
        mostThatStay();
    }

    private static void mostThatStay() {
        KeyDrive d = new KeyDrive();
        for (int i = 0; i < 7; i++) {
            Check.put(d, "k", "v");
            if (i < 4) {
                d.snap(i);
            } else {
                Check.open(d, i - 4, "", -1);
            }
        }
        numbers(d, "k", 1, 2, 3, 4, 5, 6, 7);
        Check.put(d, "k", "v");
        numbers(d, "k", 1, 2, 3, 4, 5, 6, 7, 8);
        Check.remove(d, "k");
        numbers(d, "k", 1, 2, 3, 4, 5, 6, 7, 9);
        Check.put(d, "k", "v");
        numbers(d, "k", 1, 2, 3, 4, 5, 6, 7, 10);
        due("all of them", d.count(2), 8);
    }

    private static void whichGo() {
        Edge.says("of what stays of a KEY, those REMOVED that are ahead of all with a RECORD go, too.");
        KeyDrive d = removedBetween();
        numbers(d, "k", 1, 2, 3);
        d.unsnap(1);
        numbers(d, "k", 1, 3);
        KeyDrive e = removedBetween();
        e.unsnap(0);
        numbers(e, "k", 3);
        due("though a moment is held up to which it is the greatest", e.count(4), 2);
        KeyDrive f = new KeyDrive();
        Check.put(f, "k", "");
        Check.remove(f, "k");
        numbers(f, "k");
        due("removed alone, though the latest", f.count(2), 0);
        KeyDrive g = new KeyDrive();
        Check.put(g, "k", "");
        g.snap(0);
        Check.remove(g, "k");
        g.snap(1);
        Check.put(g, "k", "");
        Check.remove(g, "k");
        numbers(g, "k", 1, 2, 4);
        g.unsnap(0);
        numbers(g, "k");
        Edge.says("(Others go at once, as soon as that is so; their RECORDS are DEAD.)");
        goAtOnce();
    }

    /** Version 1 (held by snapshot 0), removed by 2 (held by snapshot 1), version 3. */
    private static KeyDrive removedBetween() {
        KeyDrive d = new KeyDrive();
        Check.put(d, "k", "v");
        d.snap(0);
        Check.remove(d, "k");
        d.snap(1);
        Check.put(d, "k", "w");
        return d;
    }

    private static void goAtOnce() {
        KeyDrive d = new KeyDrive();
        Check.putSize(d, "kk", 20);
        Check.putSize(d, "kk", 10);
        due("by a put", d.space(2), 20);
        d.snap(0);
        Check.open(d, 0, "zz", -1);
        Check.remove(d, "kk");
        due("not while a moment is held", d.space(2), 20);
        d.unsnap(0);
        due("nor while another is", d.space(2), 20);
        d.next(0);
        due("by next() that closes", d.space(2), 30);
        Check.putSize(d, "kk", 12);
        Check.remove(d, "kk");
        due("by a removal", d.space(2), 42);
        Check.putSize(d, "kk", 14);
        d.snap(1);
        Check.batch(d, Check.deedRemove("kk"));
        due("held", d.space(2), 42);
        d.unsnap(1);
        due("by unsnap()", d.space(2), 56);
    }

    // ---- pages

    private static void pages() {
        Edge.says("PAGES 0 to 23 of 64 bytes; each is FREE (all at first), or has RECORDS behind one another from its first"
                + " byte on;");
        KeyDrive d = new KeyDrive();
        due("all are free", d.count(1), 24);
        due("bytes of all", d.space(4), 24 * 64);
        due("there is no page 24", d.page(24, 0), -2);
        due("there is a page 23", d.page(23, 0), 0);
        Check.putSize(d, "aa", 46);
        Check.putSize(d, "bb", 18);
        due("from its first byte on", Check.version(d, "aa", 0, 2), 0);
        due("behind one another", Check.version(d, "bb", 0, 2), 46);
        due("64 bytes are full", d.space(3), 0);
        Check.putSize(d, "cc", 6);
        due("the next comes to another page", Check.version(d, "cc", 0, 1), 1);
        due("to its first byte", Check.version(d, "cc", 0, 2), 0);
        Edge.says("END: how many bytes these take (DEAD ones, too).");
        due("END", d.page(0, 0), 64);
        Check.remove(d, "aa");
        due("with dead ones", d.page(0, 0), 64);
        Check.remove(d, "bb");
        due("with dead ones alone it isn't free", d.page(0, 0), 64);
        due("free pages", d.count(1), 22);
    }

    /** A page has ten records at the most. */
    private static void pageOfTen() {
        KeyDrive d = new KeyDrive();
        for (int i = 0; i < 11; i++) {
            Check.put(d, "" + (char) i, "" + (char) i);
        }
        due("ten records of six bytes", d.page(0, 0), 60);
        due("the tenth is there", Check.version(d, "\11", 0, 2), 54);
        due("the eleventh isn't", Check.version(d, "\12", 0, 1), 1);
        Check.remove(d, "\11");
        due("the tenth is dead", d.page(0, 3), 6);
        d.undo(1);
        Check.remove(d, "\0");
        due("the others are swept", d.sweep(0), 54);
        due("four to the last page", Check.version(d, "\1", 0, 1), 1);
        due("the tenth, too", Check.version(d, "\11", 0, 1), 1);
        Check.get(d, "\11", -1);
        Edge.due("with its value", Check.answer(d), "\11");
        for (int i = 1; i < 11; i++) {
            Check.remove(d, "" + (char) i);
        }
        due("all ten are dead", d.page(1, 3), 60);
        due("none isn't", d.page(1, 4), 0);
    }

    /** Page 23 is used as any other: sweeping comes to it when it is the only free one. */
    private static void lastPage() {
        KeyDrive d = Setups.halves();
        for (int i = 0; i < 4; i += 2) {
            Check.remove(d, Check.key(i));
            d.sweep(i / 2);
        }
        due("END", d.page(23, 0), 64);
        due("live", d.page(23, 1), 64);
        due("all live bytes", d.space(0), 44 * 32);
        due("none behind END", d.space(3), 0);
        due("pages 0 and 1 are free", d.space(4), 128);
        Check.remove(d, Check.key(1));
        due("dead there", d.space(2), 32);
        due("swept next", d.victim(0), 23);
        Check.remove(d, Check.key(3));
        d.sweep(23);
        due("free", d.page(23, 0), 0);
        due("three are", d.count(1), 3);
        Check.putSize(d, "yy", 46);
        Check.putSize(d, "zz", 46);
        due("as worn as pages 0 and 1", Check.version(d, "zz", 0, 1), 1);
    }

    private static void sizes() {
        Edge.says("SIZE of a RECORD: 4, and the KEY's and the VALUE's bytes, made even by one more (6 to 52).");
        int[][] rows = {{1, 0, 6}, {1, 1, 6}, {2, 0, 6}, {1, 2, 8}, {2, 1, 8}, {8, 0, 12}, {1, 40, 46}, {7, 39, 50},
            {7, 40, 52}, {8, 39, 52}, {8, 40, 52}};
        for (int[] row : rows) {
            KeyDrive d = new KeyDrive();
            String key = "k".repeat(row[0]);
            Check.put(d, key, "v".repeat(row[1]));
            due("of " + row[0] + " and " + row[1], Check.version(d, key, 0, 3), row[2]);
            due("END by that", d.page(0, 0), row[2]);
            due("its value has no byte more", Check.get(d, key, -1), row[1]);
        }
    }

    private static void termsAtFirst() {
        Edge.says("TERMS: 0 RULE 0 to 2 (0 at first), 1 CHOICE 0 to 2 (0).");
        KeyDrive d = new KeyDrive();
        for (int what = 0; what < 2; what++) {
            due("-1", d.terms(what, -1), -3);
            due("3", d.terms(what, 3), -3);
            due("at first", d.terms(what, 2), 0);
            due("the greatest", d.terms(what, 0), 2);
        }
    }

    private static void placeBehindEnd() {
        Edge.says("PLACE for a SIZE: of PAGES that aren't FREE and have so many bytes behind END:");
        for (int rule = 0; rule < 3; rule++) {
            KeyDrive d = new KeyDrive();
            d.terms(0, rule);
            Check.putSize(d, "aa", 40);
            Check.putSize(d, "bb", 26);
            due("two bytes too few, rule " + rule, d.count(3), 1);
            d.undo(1);
            Check.putSize(d, "bb", 24);
            due("just as many, rule " + rule, d.count(3), 0);
            due("END is 64", d.page(0, 0), 64);
            Check.putSize(d, "cc", 6);
            due("none are left, rule " + rule, d.count(3), 1);
            Check.remove(d, "aa");
            Check.remove(d, "bb");
            d.sweep(0);
            Check.putSize(d, "dd", 6);
            due("a free page comes behind those in use, rule " + rule, d.count(3), 1);
        }
    }

    private static void placeByRule() {
        Edge.says("RULE 0: the LAST (to which a RECORD came last; none at first), if it is one of them;");
        KeyDrive d = new KeyDrive();
        due("none at first", d.count(3), -1);
        Check.putSize(d, "aa", 30);
        Check.putSize(d, "bb", 46);
        due("the last", d.count(3), 1);
        Check.putSize(d, "cc", 20);
        due("if it isn't one of them, no other in use is", d.count(3), 2);
        Check.putSize(d, "dd", 18);
        due("if it is", d.count(3), 2);
        Edge.says("1 the lowest one;");
        KeyDrive e = threePages();
        e.terms(0, 1);
        due("the lowest", lands(e, 12), 0);
        due("the lowest of those with so many", lands(e, 28), 2);
        Edge.says("2 the one of the fewest bytes behind END, of like ones the lowest.");
        KeyDrive f = threePages();
        f.terms(0, 2);
        due("the fewest", lands(f, 12), 1);
        due("just as many as there are", lands(f, 18), 1);
        due("the fewest of those with so many", lands(f, 20), 0);
        due("the only one with so many", lands(f, 30), 2);
        KeyDrive g = threePages();
        g.terms(0, 1);
        Check.putSize(g, "zz", 6);
        g.terms(0, 2);
        due("of like ones the lowest", lands(g, 12), 0);
    }

    /** END of page 0 is 40, of page 1 46, of page 2 30. */
    private static KeyDrive threePages() {
        KeyDrive d = new KeyDrive();
        Check.putSize(d, "aa", 40);
        Check.putSize(d, "bb", 46);
        Check.putSize(d, "cc", 30);
        return d;
    }

    /** The page to which a record of a size comes; it is undone then. */
    private static int lands(KeyDrive d, int size) {
        Check.putSize(d, "nn", size);
        int page = Check.version(d, "nn", 0, 1);
        d.undo(1);
        return page;
    }

    private static void placeOnFreePage() {
        Edge.says("If there is none such: the FREE one of the fewest ERASES, of like ones the lowest.");
        KeyDrive d = new KeyDrive();
        for (int p = 0; p < 24; p++) {
            due("page by page", lands(d, 46), p);
            Setups.wearOut(d, 1);
        }
        due("all were erased once: the lowest again", lands(d, 46), 0);
        Check.putSize(d, "aa", 46);
        due("of those that are free", lands(d, 46), 1);
        Edge.says("The RECORD comes to its END.");
        due("of a free page: its first byte", Check.version(d, "aa", 0, 2), 0);
        Check.putSize(d, "bb", 18);
        due("of a page in use", Check.version(d, "bb", 0, 2), 46);
        KeyDrive e = new KeyDrive();
        for (int i = 0; i < 4; i++) {
            Check.put(e, Check.key(i), valueOf(i));
            Check.putSize(e, "k" + i, 10);
        }
        e.terms(0, 1);
        Check.put(e, Check.key(4), valueOf(4).substring(0, 16));
        due("between others", Check.version(e, Check.key(4), 0, 2), 42);
        due("on the lowest page", Check.version(e, Check.key(4), 0, 1), 0);
        valuesAre(e, 0, 1, 2, 3);
    }

    private static void sweeping() {
        Edge.says("To SWEEP a PAGE (one with a DEAD RECORD): its RECORDS that aren't DEAD come, in order, each to its PLACE"
                + " (on other PAGES, FREE ones, too);");
        KeyDrive d = new KeyDrive();
        due("a free one can't be", d.sweep(0), -5);
        Check.putSize(d, "aa", 8);
        Check.putSize(d, "bb", 10);
        Check.putSize(d, "cc", 12);
        Check.putSize(d, "dd", 14);
        due("nor one without a dead record", d.sweep(0), -5);
        d.snap(0);
        Check.remove(d, "cc");
        due("an old one isn't dead", d.sweep(0), -5);
        d.undo(2);
        Check.remove(d, "bb");
        d.snap(0);
        Check.remove(d, "cc");
        due("those that aren't dead, old ones, too", d.sweep(0), 34);
        due("first", Check.version(d, "aa", 0, 2), 0);
        due("second", Check.version(d, "cc", 0, 2), 8);
        due("third", Check.version(d, "dd", 0, 2), 20);
        due("to a free page", Check.version(d, "dd", 0, 1), 1);
        Edge.says("then it is FREE, with one ERASE more (it is the LAST no more).");
        due("END", d.page(0, 0), 0);
        due("erases", d.page(0, 5), 1);
        due("bytes of free ones", d.space(4), 23 * 64);
        due("the last is that to which its records came", d.count(3), 1);
        KeyDrive other = Check.filled(2, 46);
        Check.remove(other, Check.key(0));
        due("a page that isn't the last, without others", other.sweep(0), 0);
        due("leaves the last", other.count(3), 1);
        KeyDrive e = new KeyDrive();
        Check.putSize(e, "aa", 8);
        Check.remove(e, "aa");
        due("it is the last", e.count(3), 0);
        due("nothing comes to others", e.sweep(0), 0);
        due("there is no last", e.count(3), -1);
    }

    private static void sweepingToOthers() {
        KeyDrive d = new KeyDrive();
        d.terms(0, 1);
        Check.putSize(d, "aa", 20);
        Check.putSize(d, "ab", 20);
        Check.putSize(d, "ba", 46);
        Check.remove(d, "aa");
        Check.putSize(d, "ca", 46);
        d.sweep(0);
        due("not to itself, though it is the lowest with so many behind END", Check.version(d, "ab", 0, 1), 3);
        d.undo(1);
        d.terms(0, 2);
        d.sweep(0);
        due("nor by rule 2", Check.version(d, "ab", 0, 1), 3);
        KeyDrive e = new KeyDrive();
        Check.putSize(e, "aa", 20);
        Check.putSize(e, "ab", 20);
        Check.remove(e, "aa");
        due("it is the last", e.count(3), 0);
        e.sweep(0);
        due("nor by rule 0", Check.version(e, "ab", 0, 1), 1);
        KeyDrive f = Setups.halves();
        Check.remove(f, Check.key(0));
        due("one is free", f.count(1), 1);
        due("the only free one, too", f.sweep(0), 32);
        due("there", Check.version(f, Check.key(1), 0, 1), 23);
        due("one is free then", f.count(1), 1);
    }

    /** Values come along, from the first byte of the first page to the last of the last one, and back. */
    private static void sweepingValues() {
        KeyDrive d = new KeyDrive();
        d.terms(0, 1);
        for (int i = 0; i < 46; i++) {
            Check.put(d, Check.key(i), valueOf(i));
        }
        Check.remove(d, Check.key(1));
        Check.remove(d, Check.key(2));
        d.sweep(0);
        d.sweep(1);
        due("from the first byte of page 0", Check.version(d, Check.key(0), 0, 1), 23);
        due("to the last byte of page 23", Check.version(d, Check.key(3), 0, 2), 32);
        valuesAre(d, 0, 3);
        d.terms(1, 1);
        d.undo(1);
        valuesAre(d, 0, 3);
        Check.remove(d, Check.key(0));
        d.sweep(23);
        due("from there to the first byte of page 0", Check.version(d, Check.key(3), 0, 1), 0);
        valuesAre(d, 3, 4);
    }

    private static void valuesAre(KeyDrive d, int... keys) {
        for (int i : keys) {
            Check.get(d, Check.key(i), -1);
            Edge.due("value of " + i, Check.answer(d), valueOf(i));
        }
    }

    /** 26 bytes, so that a record with a key of two has 32. */
    private static String valueOf(int i) {
        return Check.key(i) + "abcdefghijklmnopqrstuv" + Check.key(99 - i);
    }

    private static void putting() {
        Edge.says("To PUT: its RECORD comes to its PLACE, but the only FREE PAGE is no PLACE for it.");
        KeyDrive d = Check.filled(22, 46);
        due("two are free", d.count(1), 2);
        due("one of two is", Check.putSize(d, "yy", 46), 23);
        due("one is free", d.count(1), 1);
        due("the only one isn't", Check.putSize(d, "zz", 46), -4);
        d.batch(0);
        due("nor for the least that doesn't fit elsewhere", Check.putSize(d, "zz", 20), -4);
        d.batch(0);
        due("a page in use is", Check.putSize(d, "zz", 18), 24);
        due("that", Check.version(d, "zz", 0, 1), 22);
        due("one is free still", d.count(1), 1);
    }

    private static void puttingBySweeping() {
        Edge.says("As long as there is no PLACE: of PAGES with a DEAD RECORD one is SWEPT (its RECORDS may come to the only"
                + " FREE PAGE, too; never to it):");
        KeyDrive d = Setups.halves();
        Check.remove(d, Check.key(0));
        Check.remove(d, Check.key(2));
        Check.remove(d, Check.key(4));
        due("a put", Check.putSize(d, "zz", 46), 50);
        due("sweeps two, not three", d.wear(2), 2);
        due("to the only free page", Check.version(d, Check.key(1), 0, 1), 23);
        due("and behind it", Check.version(d, Check.key(3), 0, 1), 23);
        due("the third stays", d.page(2, 3), 32);
        due("the record comes to a page that was swept", Check.version(d, "zz", 0, 1), 0);
        KeyDrive e = Setups.halves();
        Check.remove(e, Check.key(0));
        e.terms(0, 0);
        due("while there is a place nothing is swept", Check.putSize(e, "zz", 32), 48);
        due("swept one: its half came to the free page, the record behind it", e.wear(2), 1);
        due("there", Check.version(e, "zz", 0, 1), 23);
        KeyDrive f = Check.filled(22, 46);
        Check.remove(f, Check.key(0));
        Check.putSize(f, "zz", 46);
        due("nothing is swept for a put that has a place", f.wear(2), 0);
    }

    private static void puttingByChoice() {
        Edge.says("by CHOICE 0 that of the most bytes of DEAD ones, 1 that of the fewest bytes of others, 2 that of the"
                + " fewest ERASES, of like ones the lowest;");
        sweptBy(0, 5);
        sweptBy(1, 22);
        sweptBy(2, 3);
        KeyDrive d = Setups.uneven();
        due("none", d.victim(0), -1);
        Check.remove(d, "bH");
        Check.remove(d, "bF");
        due("of like ones the lowest, choice 0", d.victim(0), 5);
        due("choice 1", d.victim(1), 5);
        due("choice 2", d.victim(2), 5);
        fewestErases();
    }

    /** Dead are 30 bytes of page 3, 34 of pages 5 and 7, 20 of page 22, which has 10 others. */
    private static void sweptBy(int choice, int page) {
        KeyDrive d = Setups.uneven();
        for (String key : new String[] {"aD", "bF", "bH", "xx"}) {
            Check.remove(d, key);
        }
        d.terms(1, choice);
        due("swept next by choice " + choice, d.victim(choice), page);
        due("a put by choice " + choice, Check.putSize(d, "zz", 46), 51);
        due("erases", d.page(page, 5), 1);
        due("no other", d.wear(2), 1);
    }

    private static void fewestErases() {
        KeyDrive d = new KeyDrive();
        Setups.wearOut(d, 2);
        d.terms(0, 1);
        for (int p = 2; p < 24; p++) {
            Check.putSize(d, "p" + (char) (p + 64), 46);
        }
        Check.putSize(d, "qa", 46);
        due("the worn ones come last", d.count(3), 0);
        Check.remove(d, "qa");
        Check.remove(d, "p" + (char) (9 + 64));
        due("page 0 was erased, page 9 wasn't", d.victim(2), 9);
        due("both have as many dead bytes", d.victim(0), 0);
        Check.remove(d, "p" + (char) (5 + 64));
        due("the lower of those that weren't", d.victim(2), 5);
    }

    private static void puttingWithoutRoom() {
        Edge.says("without such a PAGE there is no room (nothing is done then).");
        Print.refused("a put without a dead record", Setups::full, d -> d.put(2, 40), -4);
        Print.refused("swept in vain", () -> {
            KeyDrive d = Setups.halves();
            Check.remove(d, Check.key(0));
            Check.tape(d, "zz" + "w".repeat(40));
            return d;
        }, d -> d.put(2, 40), -4);
        Edge.says("Then the VERSION is there.");
        KeyDrive d = Setups.full();
        d.batch(0);
        due("the old record isn't dead yet, so it makes no room", Check.putSize(d, Check.key(0), 46), -4);
        d.batch(0);
        Check.putSize(d, Check.key(0), 18);
        due("dead behind the put", d.page(0, 3), 46);
        due("with a new version", Check.version(d, Check.key(0), 0, 0), 24);
    }

    private static void space() {
        Edge.says("SPACE, in bytes: LIVE: of RECORDS that are SEEN now; OLD: of others that aren't DEAD; DEAD;");
        KeyDrive d = new KeyDrive();
        Check.putSize(d, "aa", 10);
        d.snap(0);
        due("seen now and held: live", d.space(0), 10);
        due("not old", d.space(1), 0);
        Check.putSize(d, "aa", 12);
        due("seen now", d.space(0), 12);
        due("held, not seen now", d.space(1), 10);
        Check.remove(d, "aa");
        due("nothing is live", d.space(0), 0);
        due("old still", d.space(1), 10);
        due("dead", d.space(2), 12);
        Edge.says("ENDS: those behind END of PAGES that aren't FREE; FREE: those of FREE PAGES.");
        due("behind END", d.space(3), 64 - 22);
        due("free", d.space(4), 23 * 64);
        d.unsnap(0);
        due("dead alone: still behind END", d.space(3), 64 - 22);
        d.sweep(0);
        due("free: nothing is behind END", d.space(3), 0);
        due("all is free", d.space(4), 24 * 64);
        KeyDrive e = Setups.rich();
        int all = 0;
        for (int what = 0; what < 5; what++) {
            all += e.space(what);
        }
        due("together", all, 24 * 64);
    }

    // ---- buckets; "a" to "g" are of the buckets 1 to 7, "h" of bucket 0

    private static void hot() {
        Edge.says("BUCKETS are HOT (3 at most, in order) or not (at first none is).");
        KeyDrive d = new KeyDrive();
        hotOnes(d, "");
        Check.get(d, "a", -1);
        hotOnes(d, "1");
        Check.get(d, "b", -1);
        hotOnes(d, "21");
        Check.get(d, "c", -1);
        hotOnes(d, "321");
        Check.get(d, "d", -1);
        hotOnes(d, "432");
        Edge.says("To TOUCH one: if it is HOT, that is a HIT, else a LOAD; it is the first of those HOT then;");
        due("loads", d.index(1), 4);
        due("no hit", d.index(0), 0);
        Check.get(d, "b", -1);
        hotOnes(d, "243");
        due("the third: a hit", d.index(0), 1);
        Check.get(d, "d", -1);
        hotOnes(d, "423");
        due("the second: a hit", d.index(0), 2);
        Check.get(d, "d", -1);
        hotOnes(d, "423");
        due("the first: a hit", d.index(0), 3);
        due("no load more", d.index(1), 4);
        Check.get(d, "a", -1);
        hotOnes(d, "142");
        due("one that was hot: a load", d.index(1), 5);
        Edge.says("a fourth isn't HOT any more, and if it was CHANGED since it became so, that is a STORE.");
        due("none was changed", d.index(2), 0);
        Check.put(d, "b", "");
        hotOnes(d, "214");
        Check.get(d, "c", -1);
        Check.get(d, "e", -1);
        hotOnes(d, "532");
        due("those that weren't changed went", d.index(2), 0);
        Check.get(d, "f", -1);
        hotOnes(d, "653");
        due("the changed one went", d.index(2), 1);
        Check.get(d, "b", -1);
        due("hot again: not changed since", d.bucket(2, 2), 0);
        for (String key : new String[] {"a", "c", "d"}) {
            Check.get(d, key, -1);
        }
        due("no store more", d.index(2), 1);
    }

    private static void hotOnes(KeyDrive d, String want) {
        String[] places = {"", "", ""};
        int cold = 0;
        for (int b = 0; b < 8; b++) {
            int place = d.bucket(b, 0);
            if (place == -1) {
                cold++;
            } else {
                places[place] += b;
            }
        }
        Edge.due("hot", String.join("", places), want);
        due("the others", cold, 8 - want.length());
    }

    private static void touching() {
        Edge.says("put(), get(), remove() that aren't refused TOUCH the BUCKET of their KEY (there or not);");
        KeyDrive d = new KeyDrive();
        Check.put(d, "a", "");
        hotOnes(d, "1");
        Check.put(d, "b", "");
        Check.get(d, "a", -1);
        hotOnes(d, "12");
        d.snap(0);
        Check.get(d, "b", 0);
        hotOnes(d, "21");
        Check.remove(d, "a");
        hotOnes(d, "12");
        Check.get(d, "c", 0);
        hotOnes(d, "312");
        Check.remove(d, "d");
        hotOnes(d, "431");
        int touched = d.index(0) + d.index(1);
        due("refused", d.put(1, 0) + d.get(1, -1) + d.remove(1), -9);
        Check.tape(d, "e");
        due("refused by the snapshot", d.get(1, 1), -6);
        due("touched none", d.index(0) + d.index(1), touched);
        KeyDrive full = Setups.full();
        due("refused without room", full.put(2, 40), -4);
        due("touched none", full.index(0) + full.index(1), 23);
        Edge.says("a PUT, a KEY REMOVED CHANGE it then (batch(): see there; others don't).");
        KeyDrive e = new KeyDrive();
        Check.get(e, "a", -1);
        due("not by get()", e.bucket(1, 2), 0);
        Check.remove(e, "b");
        due("not by a key that wasn't removed", e.bucket(2, 2), 0);
        Check.put(e, "a", "");
        due("by put()", e.bucket(1, 2), 1);
        e.snap(0);
        freshBuckets(e);
        Check.remove(e, "a");
        due("by a key that was", e.bucket(1, 2), 1);
        freshBuckets(e);
        Check.get(e, "a", -1);
        e.roll(0);
        due("roll() touches none", e.bucket(1, 0), 0);
        due("nor does it change one", e.bucket(1, 2), 0);
    }

    /** Three other buckets are touched, so that those which were hot aren't. */
    private static void freshBuckets(KeyDrive d) {
        for (String key : new String[] {"f", "g", "h"}) {
            Check.get(d, key, -1);
        }
    }

    // ---- iterators, the answer, back

    private static void iterators() {
        Edge.says("An ITERATOR has a PREFIX (0 to 8 bytes), a MOMENT, and tells, one by one, rising, each KEY SEEN at that"
                + " MOMENT that begins with the PREFIX.");
        KeyDrive d = new KeyDrive();
        for (String key : new String[] {"ab", "b", "a", "abcdefgh", "abcdefg"}) {
            Check.put(d, key, "v");
        }
        tells(d, "", "a,ab,abcdefg,abcdefgh,b");
        tells(d, "a", "a,ab,abcdefg,abcdefgh");
        tells(d, "abcdefg", "abcdefg,abcdefgh");
        tells(d, "abcdefgh", "abcdefgh");
        tells(d, "abcdefgi", "");
        Check.tape(d, "abcdefghi");
        due("nine bytes", d.open(0, 9, -1), -3);
        d.batch(0);
        Check.open(d, 0, "a", -1);
        Check.remove(d, "a");
        Check.put(d, "aa", "new");
        Check.put(d, "ab", "new");
        d.next(0);
        Edge.due("one that is removed since", Check.answer(d), "a");
        d.next(0);
        Edge.due("none that came since", Check.answer(d), "ab");
        Edge.says("Behind the last one it is closed by the call that finds none.");
        d.next(0);
        d.next(0);
        due("open behind the last", d.count(5), 1);
        due("none is left", d.left(0), 0);
        due("finds none", d.next(0), -1);
        due("closed", d.count(5), 0);
        due("not open", d.next(0), -6);
    }

    private static void tells(KeyDrive d, String prefix, String want) {
        Check.open(d, 2, prefix, -1);
        StringBuilder told = new StringBuilder();
        for (int n = d.left(2); n > 0; n--) {
            d.next(2);
            told.append(told.length() > 0 ? "," : "").append(Check.answer(d));
        }
        Edge.due("prefix '" + prefix + "'", told.toString(), want);
        due("then none", d.next(2), -1);
    }

    private static void answer() {
        Edge.says("THE ANSWER: the bytes of the VALUE, the KEY that was found last (none at first; none behind what found"
                + " none).");
        KeyDrive d = new KeyDrive();
        due("none at first", d.count(8), 0);
        due("no byte", d.answer(0), -1);
        Check.put(d, "key", "value");
        due("none behind put()", d.count(8), 0);
        Check.get(d, "key", -1);
        Edge.due("the value", Check.answer(d), "value");
        Check.tape(d, "a");
        d.seek(1);
        Edge.due("the key by seek()", Check.answer(d), "key");
        Check.get(d, "none", -1);
        due("none behind get() of none", d.count(8), 0);
        Check.open(d, 0, "", -1);
        d.next(0);
        Edge.due("the key by next()", Check.answer(d), "key");
        d.next(0);
        due("none behind next() of none", d.count(8), 0);
        Check.get(d, "key", -1);
        Check.tape(d, "z");
        d.seek(1);
        due("none behind seek() of none", d.count(8), 0);
        Check.get(d, "key", -1);
        d.next(0);
        d.get(9, -1);
        d.seek(0);
        Edge.due("as it was behind refused ones", Check.answer(d), "value");
        Check.put(d, "e", "");
        Check.get(d, "e", -1);
        due("found, of no byte", d.count(8), 0);
    }

    private static void undoable() {
        Edge.says("Calls that told KEYS, TERMS, MOMENTS, swept (put(), batch(), roll(), snap(), unsnap(), open(), next(),"
                + " close(), terms(), sweep(), trim(), clear() that aren't refused; remove() of a KEY that is SEEN) can be"
                + " UNDONE each as a whole, the latest first, 10 at most (eldest are forgotten):");
        KeyDrive d = new KeyDrive();
        for (int i = 1; i <= 12; i++) {
            Check.put(d, "k", "" + i);
            due("calls that can be undone", d.count(6), Math.min(i, 10));
        }
        due("eleven can't", d.undo(11), -3);
        due("the latest first", d.undo(1), 9);
        due("SEQ", d.count(0), 11);
        due("the rest", d.undo(9), 0);
        due("the two eldest are forgotten", d.count(0), 2);
        Check.get(d, "k", -1);
        Edge.due("the value then", Check.answer(d), "2");
        KeyDrive e = Setups.rich();
        e.undo(10);
        int none = e.count(6);
        e.feed(0, 0, 0, 0, 0);
        e.hash(1);
        Check.get(e, "a", 0);
        Check.remove(e, "nokey");
        Check.versions(e, "a");
        Check.version(e, "a", 0, 0);
        Check.tape(e, "ab");
        e.between(1, 1);
        Check.tape(e, "a");
        e.seek(1);
        e.left(1);
        e.image(0);
        e.trimmed(0);
        e.room(6);
        due("others can't", e.count(6), none);
    }

    private static void undoableEach() {
        undone("put()", d -> d.put(3, 17));
        undone("put() of a key that is there", d -> d.put(1, 3));
        undone("batch() of no byte", d -> d.batch(0));
        undone("roll()", d -> d.roll(0));
        undone("roll() that has nothing to do", d -> d.snap(3) * 0 + d.roll(3), 2);
        undone("snap()", d -> d.snap(1));
        undone("unsnap()", d -> d.unsnap(0));
        undone("open()", d -> d.open(0, 0, 2));
        undone("next()", d -> d.next(1));
        undone("next() that closes", d -> d.next(1) * 0 + d.next(1), 2);
        undone("close()", d -> d.close(1));
        undone("terms() of the rule", d -> d.terms(0, 1));
        undone("terms() of the same", d -> d.terms(1, 1));
        undone("sweep()", d -> d.sweep(1));
        undone("trim()", KeyDrive::trim);
        undone("clear()", d -> d.clear(24));
        undone("clear() that sweeps none", d -> d.clear(1));
        undone("remove() of a key that is seen", d -> d.remove(1));
        undone("remove() of one that isn't", d -> d.remove(8), 0);
        undone("batch() of several", d -> {
            d.hash(1);
            return Check.batch(d, Check.deedPut("x", "") + Check.deedRemove("a") + Check.deedPut("ab", "new"));
        });
    }

    private static void undone(String what, ToLongFunction<KeyDrive> call) {
        undone(what, call, 1);
    }

    /** So many calls more can be undone, and then the state is as it was. */
    private static void undone(String what, ToLongFunction<KeyDrive> call, int calls) {
        KeyDrive d = fewToUndo();
        int before = d.count(6);
        due(what + " isn't refused", call.applyAsLong(d) < -1 ? 1 : 0, 0);
        due(what + " can be undone", d.count(6), before + calls);
        if (calls > 0) {
            due("undone", d.undo(calls), before);
        }
        Edge.due(what + ": all is as it was", Print.difference(Print.ofState(d), Print.ofState(fewToUndo())), "");
        due("the rule, too", d.terms(0, 0), 2);
        due("and the choice", d.terms(1, 0), 1);
    }

    /** As rich(), with two calls that can be undone. */
    private static KeyDrive fewToUndo() {
        KeyDrive d = Setups.rich();
        d.image(1);
        d.restore(1);
        d.terms(0, 2);
        d.terms(1, 1);
        return d;
    }

    /** What comes behind undo() and behind a refused call can be undone for itself. */
    private static void undoneAndGoneOn() {
        KeyDrive d = new KeyDrive();
        Check.put(d, "a", "one");
        Check.put(d, "b", "two");
        d.undo(1);
        long one = d.sum(-1);
        Check.put(d, "c", "three");
        long two = d.sum(-1);
        Check.put(d, "d", "four");
        due("the last", d.undo(1), 2);
        due("is undone", d.sum(-1), two);
        due("the one ahead", d.undo(1), 1);
        due("is undone, too", d.sum(-1), one);
        KeyDrive full = Setups.full();
        due("no room", full.put(2, 40), -4);
        due("less", full.put(2, 12), 24);
        due("that is undone", full.undo(1), 9);
        Edge.due("as it was", Print.difference(Print.ofState(full), Print.ofState(Setups.full())), "");
        KeyDrive e = new KeyDrive();
        for (String key : new String[] {"a", "b", "c"}) {
            Check.put(e, key, "value of " + key);
        }
        Check.remove(e, "a");
        Check.put(e, "d", "other");
        e.undo(1);
        Check.put(e, "e", "another");
        for (String key : new String[] {"b", "c"}) {
            Check.get(e, key, -1);
            Edge.due("as it was put", Check.answer(e), "value of " + key);
        }
        due("what was undone isn't there", Check.get(e, "d", -1), -1);
    }

    /** However many keys there are, and whichever iterators. */
    private static void undoneWhole() {
        KeyDrive d = new KeyDrive();
        for (int i = 0; i < 230; i += 10) {
            StringBuilder deeds = new StringBuilder();
            for (int j = i; j < i + 10; j++) {
                deeds.append(Check.deedPut(Check.key(j), ""));
            }
            Check.batch(d, deeds.toString());
        }
        for (int i : new int[] {229, 100, 50}) {
            Check.remove(d, Check.key(i));
            Check.put(d, Check.key(i), "");
            due("a newer one", Check.version(d, Check.key(i), 0, 0), 232);
            d.undo(2);
            due("number", Check.version(d, Check.key(i), 0, 0), i + 1);
            due("page", Check.version(d, Check.key(i), 0, 1), i / 10);
        }
        Check.remove(d, Check.key(5));
        due("nine come to page 23", d.sweep(0), 54);
        Check.put(d, "zz", "");
        d.terms(1, 1);
        d.undo(1);
        Check.remove(d, "zz");
        due("the tenth there is dead", d.page(23, 3), 6);
        for (int i = 0; i < 3; i++) {
            iteratorIsUndone(i);
        }
    }

    private static void iteratorIsUndone(int i) {
        KeyDrive d = Setups.rich();
        d.close(1);
        Check.open(d, i, "a", 0);
        d.next(i);
        d.image(0);
        d.close(i);
        d.undo(1);
        due("open again", d.left(i), 1);
        d.next(i);
        d.undo(1);
        due("one is left again", d.left(i), 1);
        d.trim();
        due("closed by trim()", d.count(5), 0);
        d.undo(1);
        due("and open", d.left(i), 1);
        d.close(i);
        Check.open(d, i, "c", -1);
        d.restore(0);
        d.next(i);
        Edge.due("its prefix", Check.answer(d), "ab");
        due("its last", d.next(i), -1);
    }

    private static void leftByUndo() {
        Edge.says("all but THE TAPE, THE ANSWER, BUCKETS that are HOT, CHANGED, and how many HITS, LOADS, STORES.");
        KeyDrive d = new KeyDrive();
        Check.put(d, "a", "value");
        for (String key : new String[] {"b", "c", "d", "d"}) {
            Check.put(d, key, "");
        }
        Check.get(d, "a", -1);
        Check.tape(d, "x");
        String before = Print.ofRest(d);
        d.undo(4);
        Edge.due("left as it is", Print.difference(Print.ofRest(d), before), "");
        due("the tape", d.count(7), 20);
        due("the answer", d.count(8), 5);
        due("hot", d.bucket(4, 0), 1);
        due("changed", d.bucket(4, 2), 1);
        due("hits", d.index(0), 1);
        due("loads", d.index(1), 5);
        due("stores", d.index(2), 2);
        due("the keys aren't", d.keys(-1), 1);
    }

    private static void images() {
        Edge.says("IMAGES 0 to 1: the same (none at first);");
        KeyDrive none = new KeyDrive();
        due("0 wasn't made", none.restore(0), -6);
        due("1 wasn't made", none.restore(1), -6);
        due("there is no image 2", none.image(2), -2);
        KeyDrive d = Setups.rich();
        d.image(0);
        String state = Print.ofState(Setups.rich());
        Check.put(d, "e", "more");
        d.trim();
        Check.get(d, "e", -1);
        String rest = Print.ofRest(d);
        d.restore(0);
        due("the tape is left", d.count(7), 0);
        Edge.due("what isn't in it is left", Print.difference(Print.ofRest(d), rest), "");
        KeyDrive e = Setups.rich();
        e.image(0);
        Check.put(e, "e", "more");
        e.trim();
        e.restore(0);
        Edge.due("the state is as it was", Print.difference(Print.ofState(e), state), "");
        Edge.says("nothing can be UNDONE behind.");
        due("nothing", e.count(6), 0);
        due("not even one", e.undo(1), -3);
        e.snap(1);
        due("what comes behind can", e.undo(1), 0);
        KeyDrive f = Setups.rich();
        f.image(1);
        due("to make one leaves what can be undone", f.count(6), 10);
    }

    private static void tape() {
        Edge.says("A call with a KEY (a PREFIX) takes it from THE TAPE: its first k bytes (the VALUE behind it);");
        KeyDrive d = new KeyDrive();
        Check.tape(d, "abcdef");
        d.put(2, 3);
        due("the first bytes", Check.get(d, "ab", -1), 3);
        Edge.due("the value behind them", Check.answer(d), "cde");
        Check.tape(d, "abcdef");
        due("a prefix", d.open(0, 1, -1), 1);
        Check.tape(d, "abcdef");
        due("two keys behind one another", d.between(2, 1), 1);
        Edge.says("THE TAPE is empty then, unless it is refused.");
        List<ToLongFunction<KeyDrive>> calls = List.of(x -> x.put(1, 1), x -> x.get(1, -1), x -> x.get(8, -1),
                x -> x.remove(1), x -> x.remove(8), x -> x.versions(1), x -> x.version(1, 9, 0), x -> x.hash(1),
                x -> x.seek(8), x -> x.between(1, 1), x -> x.open(0, 0, -1), x -> x.open(0, 8, -1));
        for (int i = 0; i < calls.size(); i++) {
            KeyDrive e = Setups.rich();
            due("call " + i + " isn't refused", calls.get(i).applyAsLong(e) < -1 ? 1 : 0, 0);
            due("call " + i + ": the tape is empty", e.count(7), 0);
        }
        calls = List.of(x -> x.put(9, 1), x -> x.put(1, 20), x -> x.get(0, -1), x -> x.get(1, 1), x -> x.get(1, 4),
                x -> x.remove(0), x -> x.versions(9), x -> x.version(1, 0, 4), x -> x.hash(0), x -> x.seek(9),
                x -> x.between(1, 0), x -> x.open(1, 0, -1), x -> x.open(0, 9, -1), x -> x.open(0, 1, 1),
                x -> x.open(3, 1, -1));
        for (int i = 0; i < calls.size(); i++) {
            KeyDrive e = Setups.rich();
            due("call " + i + " is refused", calls.get(i).applyAsLong(e) < -1 ? 1 : 0, 1);
            due("call " + i + ": the tape stays", e.count(7), 20);
        }
    }

    private static void fromZeroOn() {
        Edge.says("The k-th, the i-th of whatever: from 0 on, where it isn't told otherwise.");
        KeyDrive d = removedBetween();
        due("version 0 is the eldest", Check.version(d, "k", 0, 0), 1);
        due("version 2 the third", Check.version(d, "k", 2, 0), 3);
        Check.put(d, "l", "xyz");
        Check.get(d, "l", -1);
        due("byte 0 is the first", d.answer(0), 'x');
        due("byte 2 the third", d.answer(2), 'z');
    }

    private static void refused() {
        Edge.says("Refused calls answer by a code and change nothing:");
        List<ToLongFunction<KeyDrive>> none = List.of(d -> d.get(1, 4), d -> d.get(1, -2), d -> d.version(1, 0, 4),
                d -> d.diff(4, 0), d -> d.diff(0, 3), d -> d.roll(4), d -> d.keys(4), d -> d.groups(1, 2),
                d -> d.alike(2), d -> d.sum(4), d -> d.snap(4), d -> d.unsnap(4), d -> d.open(3, 0, -1),
                d -> d.open(0, 0, 4), d -> d.next(3), d -> d.left(3), d -> d.close(3), d -> d.terms(2, 0),
                d -> d.page(24, 0), d -> d.page(0, 6), d -> d.space(5), d -> d.sweep(24), d -> d.best(2), d -> d.wear(5),
                d -> d.bucket(8, 0), d -> d.bucket(0, 3), d -> d.index(3), d -> d.image(2), d -> d.restore(2));
        allRefused("there is none such", none, -2);
        List<ToLongFunction<KeyDrive>> number = List.of(d -> d.put(0, 0), d -> d.put(1, 41), d -> d.put(8, 13),
                d -> d.get(0, -1), d -> d.remove(0), d -> d.versions(0), d -> d.version(0, 0, 0), d -> d.hash(0),
                d -> d.batch(-1), d -> d.batch(21), d -> d.seek(0), d -> d.between(0, 1), d -> d.between(1, 0),
                d -> d.groups(0, 0), d -> d.open(0, 9, -1), d -> d.terms(0, 3), d -> d.terms(1, 3), d -> d.victim(3),
                d -> d.clear(0), d -> d.clear(25), d -> d.trimmed(3), d -> d.room(7), d -> d.sure(7), d -> d.would(7),
                d -> d.packs(3), d -> d.undo(0), d -> d.undo(11));
        allRefused("a number can't be", number, -3);
        List<ToLongFunction<KeyDrive>> now = List.of(d -> d.snap(0), d -> d.open(1, 0, -1), d -> d.sweep(23));
        allRefused("it can't be now", now, -5);
        List<ToLongFunction<KeyDrive>> missing = List.of(d -> d.get(1, 1), d -> d.diff(1, 0), d -> d.roll(3),
                d -> d.keys(1), d -> d.sum(3), d -> d.unsnap(1), d -> d.open(0, 0, 3), d -> d.next(0), d -> d.left(2),
                d -> d.close(0), d -> d.restore(0));
        allRefused("it is missing", missing, -6);
        Print.refused("no room on the tape", Setups::full, d -> d.feed(1, 2, 3, 4, 5), -4);
        Print.refused("no room for a put", Setups::full, d -> d.put(2, 30), -4);
        Print.refused("no room to roll", Setups::fullOfOld, d -> d.roll(1), -4);
    }

    private static void allRefused(String why, List<ToLongFunction<KeyDrive>> calls, int code) {
        for (int i = 0; i < calls.size(); i++) {
            Print.refused(why + ", " + i, Setups::rich, calls.get(i), code);
        }
    }

    private static void codes() {
        Edge.says("-2 there is none such; -3 a number can't be; -4 no room; -5 it can't be now; -6 it is missing; -30 less a"
                + " FAULT.");
        KeyDrive d = new KeyDrive();
        due("there is no snapshot 4", d.snap(4), -2);
        due("a key can't be of 9 bytes", d.hash(9), -3);
        due("no room", Setups.full().put(2, 40), -4);
        d.snap(0);
        due("a snapshot that holds can't be taken now", d.snap(0), -5);
        due("a snapshot is missing", d.roll(1), -6);
        due("fault 1", Check.batch(d, "\0"), -31);
        due("fault 2", Check.batch(d, "\1"), -32);
        due("fault 3", Check.batch(d, "\1\0"), -33);
    }

    private static void order() {
        Edge.says("(Of several that which the call tells first; all these ahead of NONE.)");
        KeyDrive d = Setups.rich();
        due("get: at, then k, then the snapshot", d.get(0, 4), -2);
        due("get: k, then the snapshot", d.get(0, 1), -3);
        due("get: the snapshot, then NONE", d.get(8, 1), -6);
        due("version: what, then k", d.version(0, 0, 4), -2);
        due("version: what, then NONE", d.version(1, -1, 4), -2);
        due("version: k, then NONE", d.version(0, -1, 0), -3);
        due("remove: k, then NONE", d.remove(9), -3);
        due("diff: what, then the snapshot", d.diff(1, 3), -2);
        due("groups: what, then n", d.groups(0, 2), -2);
        due("open: at, then that it is open", d.open(1, 9, 4), -2);
        due("open: that it is open, then k", d.open(1, 9, 1), -5);
        due("open: k, then the snapshot", d.open(0, 9, 1), -3);
        due("open: the snapshot last", d.open(0, 1, 1), -6);
        due("terms: what, then v", d.terms(2, 9), -2);
        KeyDrive full = Setups.full();
        due("put: k, then room", full.put(9, 40), -3);
        due("put: v, then room", full.put(2, 41), -3);
    }

    private static void constant() {
        Edge.says("The constants: `NONE = -1`: There is none.");
        due("NONE", KeyDrive.NONE, -1);
    }
}
