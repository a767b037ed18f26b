/** The sentences of promises 26 to 39, with the boundary cases that they name. */
public final class SpaceEdgeTest {
    private static final int[] WILD = {Integer.MIN_VALUE, -2, -1, 25, Integer.MAX_VALUE};
    private static final int[] NO_SIZES = {Integer.MIN_VALUE, -6, 0, 4, 5, 7, 51, 53, 54, Integer.MAX_VALUE};

    public static void main(String[] args) {
        terms();
        page();
        space();
        victim();
        sweep();
        trim();
        clear();
        trimmed();
        room();
        sure();
        would();
        packs();
        best();
        wear();
        Edge.end();
    }

    private static void due(String what, long got, long want) {
        Edge.due(what, got, want);
    }

    private static void terms() {
        Edge.promise(26);
        Edge.says("A TERM: what it was.");
        KeyDrive d = new KeyDrive();
        due("rule at first", d.terms(0, 1), 0);
        due("choice at first", d.terms(1, 2), 0);
        due("rule", d.terms(0, 2), 1);
        due("rule as it is", d.terms(0, 2), 2);
        due("choice", d.terms(1, 1), 2);
        due("choice again", d.terms(1, 0), 1);
        due("rule again", d.terms(0, 0), 2);
        Edge.says("-2: what;");
        due("2", d.terms(2, 0), -2);
        for (int what : WILD) {
            due("" + what, d.terms(what, 0), -2);
        }
        Edge.says("-3.");
        for (int v : WILD) {
            due("rule " + v, d.terms(0, v), -3);
            due("choice " + v, d.terms(1, v), -3);
        }
        due("rule 3", d.terms(0, 3), -3);
        due("choice 3", d.terms(1, 3), -3);
        due("as they were", d.terms(0, 0) + d.terms(1, 0), 0);
    }

    private static void page() {
        Edge.promise(27);
        Edge.says("Of a PAGE, what 0: END (0: it is FREE), 1: bytes of RECORDS that are LIVE, 2: OLD, 3: DEAD, 4: how many"
                + " RECORDS aren't DEAD, 5: ERASES.");
        KeyDrive d = new KeyDrive();
        pageIs(d, 0, 0, 0, 0, 0, 0, 0);
        pageIs(d, 23, 0, 0, 0, 0, 0, 0);
        Check.putSize(d, "aa", 10);
        Check.putSize(d, "bb", 12);
        d.snap(0);
        Check.putSize(d, "aa", 14);
        Check.putSize(d, "bb", 6);
        Check.putSize(d, "bb", 22);
        pageIs(d, 0, 64, 36, 22, 6, 4, 0);
        Check.remove(d, "aa");
        Check.remove(d, "bb");
        pageIs(d, 0, 64, 0, 22, 42, 2, 0);
        d.unsnap(0);
        pageIs(d, 0, 64, 0, 0, 64, 0, 0);
        d.sweep(0);
        pageIs(d, 0, 0, 0, 0, 0, 0, 1);
        for (int i = 0; i < 10; i++) {
            Check.put(d, "" + (char) i, "");
        }
        pageIs(d, 1, 60, 60, 0, 0, 10, 0);
        Check.putSize(d, "cc", 46);
        pageIs(d, 1, 60, 60, 0, 0, 10, 0);
        pageIs(d, 2, 46, 46, 0, 0, 1, 0);
        Check.putSize(d, "dd", 18);
        Check.remove(d, "cc");
        pageIs(d, 2, 64, 18, 0, 46, 1, 0);
        Edge.says("-2.");
        due("page 24", d.page(24, 0), -2);
        due("what 6", d.page(0, 6), -2);
        for (int wild : WILD) {
            due("page " + wild, d.page(wild, 0), -2);
            due("what " + wild, d.page(0, wild), -2);
        }
    }

    private static void pageIs(KeyDrive d, int p, int... want) {
        for (int what = 0; what < 6; what++) {
            due("page " + p + ", what " + what, d.page(p, what), want[what]);
        }
    }

    private static void space() {
        Edge.promise(28);
        Edge.says("SPACE, what 0: LIVE, 1: OLD, 2: DEAD, 3: ENDS, 4: FREE.");
        KeyDrive d = new KeyDrive();
        spaceIs(d, 0, 0, 0, 0, 1536);
        Check.putSize(d, "aa", 46);
        Check.putSize(d, "bb", 18);
        spaceIs(d, 64, 0, 0, 0, 1472);
        d.snap(0);
        Check.putSize(d, "aa", 6);
        spaceIs(d, 24, 46, 0, 58, 1408);
        Check.remove(d, "aa");
        spaceIs(d, 18, 46, 6, 58, 1408);
        d.trim();
        spaceIs(d, 18, 0, 0, 46, 1472);
        spaceIs(Setups.full(), 23 * 46, 0, 0, 23 * 18, 64);
        Edge.says("-2.");
        due("5", d.space(5), -2);
        for (int what : WILD) {
            due("" + what, d.space(what), -2);
        }
    }

    private static void spaceIs(KeyDrive d, int... want) {
        for (int what = 0; what < 5; what++) {
            due("what " + what, d.space(what), want[what]);
        }
    }

    private static void victim() {
        Edge.promise(29);
        Edge.says("The PAGE that is SWEPT next by a CHOICE.");
        KeyDrive d = Setups.uneven();
        for (String key : new String[] {"aV", "bD", "bF", "xx"}) {
            Check.remove(d, key);
        }
        due("most dead bytes, of like ones the lowest", d.victim(0), 3);
        due("fewest of others", d.victim(1), 22);
        due("fewest erases, of like ones the lowest", d.victim(2), 3);
        Check.remove(d, "yy");
        due("none of others", d.victim(1), 22);
        due("its dead bytes are fewer", d.victim(0), 3);
        Check.remove(d, "bA");
        due("page 0", d.victim(0) + d.victim(2), 0);
        Edge.says("NONE: no PAGE has a DEAD RECORD;");
        for (int choice = 0; choice < 3; choice++) {
            due("of free ones", new KeyDrive().victim(choice), -1);
            due("of full ones", Setups.full().victim(choice), -1);
            due("of old ones", Setups.fullOfOld().victim(choice), -1);
        }
        Edge.says("-3.");
        due("3", d.victim(3), -3);
        for (int choice : WILD) {
            due("" + choice, d.victim(choice), -3);
        }
    }

    private static void sweep() {
        Edge.promise(30);
        Edge.says("A PAGE is SWEPT: how many bytes came to others.");
        KeyDrive d = Setups.uneven();
        Check.remove(d, "bA");
        Check.remove(d, "aV");
        due("page 0", d.sweep(0), 30);
        due("it came behind END of another", Check.version(d, "aA", 0, 1), 22);
        due("page 21", d.sweep(21), 34);
        due("it came to a free one", Check.version(d, "bV", 0, 1), 23);
        Check.remove(d, "bV");
        due("page 23, with nothing but dead bytes", d.sweep(23), 0);
        due("erased", d.page(23, 5), 1);
        due("its terms are those of the drive, choice or not", d.wear(2), 3);
        Edge.says("-2;");
        due("24", d.sweep(24), -2);
        for (int p : WILD) {
            due("" + p, d.sweep(p), -2);
        }
        Edge.says("-5: it has no DEAD RECORD.");
        due("free", d.sweep(23), -5);
        due("in use", d.sweep(1), -5);
        due("old alone", Setups.fullOfOld().sweep(0), -5);
        due("no sweep more", d.wear(2), 3);
    }

    private static void trim() {
        Edge.promise(31);
        Edge.says("SNAPSHOTS hold nothing, ITERATORS are closed, then PAGES are SWEPT by CHOICE as long as one has a DEAD"
                + " RECORD: how many are FREE.");
        due("nothing at all", new KeyDrive().trim(), 24);
        KeyDrive full = Setups.full();
        due("nothing is dead", full.trim(), 1);
        due("nothing is swept", full.wear(2), 0);
        KeyDrive old = Setups.fullOfOld();
        due("all was old", old.trim(), 24);
        due("23 are swept", old.wear(2), 23);
        due("nothing is held", old.count(4) + old.count(5), 0);
        due("no version stays", old.count(2), 0);
        due("the last", old.count(3), -1);
        trimByChoice(0, 20);
        trimByChoice(1, 20);
        trimByChoice(2, 40);
    }

    /** See twoDead(): if page 0 is swept first, its record comes to page 2, and is swept with that once more. */
    private static void trimByChoice(int choice, int moved) {
        KeyDrive d = twoDead();
        d.terms(1, choice);
        due("free by choice " + choice, d.trim(), 22);
        due("bytes that came to others", d.wear(1), moved);
        due("pages that were swept", d.wear(2), 2);
        due("to a page that wasn't erased", Check.version(d, "ab", 0, 1), 3);
    }

    /** Page 0 has 40 dead bytes and 20 of "ab", page 1 has 46, page 2 has 44 dead ones, just 20 behind its END; rule 2. */
    private static KeyDrive twoDead() {
        KeyDrive d = new KeyDrive();
        Check.putSize(d, "aa", 40);
        Check.putSize(d, "ab", 20);
        Check.putSize(d, "ba", 46);
        Check.putSize(d, "ca", 44);
        Check.remove(d, "aa");
        Check.remove(d, "ca");
        d.terms(0, 2);
        return d;
    }

    private static void clear() {
        Edge.promise(32);
        Edge.says("PAGES are SWEPT by CHOICE till n (1 to 24) are FREE, or none has a DEAD RECORD: how many were.");
        KeyDrive d = Check.filled(6, 46);
        for (int i = 0; i < 4; i++) {
            Check.remove(d, Check.key(i));
        }
        due("one is", d.clear(1), 0);
        due("just so many are", d.clear(18), 0);
        due("one more", d.clear(19), 1);
        due("so many", d.count(1), 19);
        due("the lowest", d.page(0, 5), 1);
        due("two more", d.clear(21), 2);
        due("the last with a dead record, though fewer are free", d.clear(24), 1);
        due("free", d.count(1), 22);
        due("no page has one", d.clear(24), 0);
        KeyDrive none = new KeyDrive();
        due("all are", none.clear(24), 0);
        KeyDrive vain = Setups.halves();
        Check.remove(vain, Check.key(0));
        due("swept, though no more are free by it", vain.clear(2), 1);
        due("one", vain.count(1), 1);
        KeyDrive e = Setups.uneven();
        Check.remove(e, "aD");
        Check.remove(e, "xx");
        e.terms(1, 1);
        due("by choice", e.clear(2), 2);
        due("fewest of others first: to the free page", Check.version(e, "yy", 0, 1), 23);
        due("then the other behind it", Check.version(e, "bD", 0, 2), 10);
        due("snapshots and iterators are left", oldCleared(), 3);
        Edge.says("-3.");
        due("0", d.clear(0), -3);
        for (int n : WILD) {
            due("" + n, d.clear(n), -3);
        }
    }

    private static int oldCleared() {
        KeyDrive d = Setups.fullOfOld();
        d.clear(24);
        return d.count(4) + d.count(5);
    }

    private static void trimmed() {
        Edge.promise(33);
        Edge.says("On paper: how many bytes come to other PAGES, as PAGES are SWEPT by a CHOICE till none has a DEAD"
                + " RECORD.");
        KeyDrive d = twoDead();
        String before = Print.ofState(twoDead());
        due("page 2 first", d.trimmed(0), 20);
        due("page 2 first, too", d.trimmed(1), 20);
        due("page 0 first, to page 2, and once more", d.trimmed(2), 40);
        Edge.due("on paper", Print.difference(Print.ofState(d), before), "");
        due("whatever the drive's choice is", d.terms(1, 2), 0);
        due("that doesn't count", d.trimmed(0), 20);
        for (int choice = 0; choice < 3; choice++) {
            due("nothing", new KeyDrive().trimmed(choice), 0);
            due("old ones are held", Setups.fullOfOld().trimmed(choice), 0);
        }
        KeyDrive e = twoDead();
        e.sweep(0);
        due("what came ahead doesn't count", e.trimmed(0), 20);
        KeyDrive one = new KeyDrive();
        Check.putSize(one, "aa", 20);
        Check.putSize(one, "bb", 30);
        Check.remove(one, "aa");
        due("the only page in use", one.trimmed(0), 30);
        Edge.says("-3.");
        due("3", d.trimmed(3), -3);
        for (int choice : WILD) {
            due("" + choice, d.trimmed(choice), -3);
        }
    }

    private static void room() {
        Edge.promise(34);
        Edge.says("How many RECORDS of a SIZE (6 to 52, even) of new KEYS could be PUT, one behind the other, till there is"
                + " no room for one.");
        KeyDrive d = new KeyDrive();
        due("the least", d.room(6), 23 * 10);
        due("the greatest", d.room(52), 23);
        due("twice 32", d.room(32), 23 * 2);
        due("once 34", d.room(34), 23);
        KeyDrive full = Setups.full();
        due("none", full.room(20), 0);
        due("one behind the last", full.room(18), 1);
        due("three behind the last", full.room(6), 3);
        full.terms(0, 1);
        due("behind each", full.room(18), 23);
        due("none by rule 1", full.room(20), 0);
        due("three behind each", full.room(6), 69);
        KeyDrive old = Setups.fullOfOld();
        due("old ones give nothing", old.room(46), 0);
        old.unsnap(1);
        old.close(0);
        due("dead ones do: all but one page", old.room(46), 23);
        due("the least", old.room(6), 230);
        KeyDrive vain = Setups.halves();
        Check.remove(vain, Check.key(0));
        due("a half page is dead: one of 32", vain.room(32), 1);
        due("none of 34", vain.room(34), 0);
        due("five of 6", vain.room(6), 5);
        Check.remove(vain, Check.key(2));
        due("two halves: one whole page", vain.room(52), 1);
        due("two halves", vain.room(32), 2);
        roomIsPut();
        Edge.says("-3.");
        for (int size : NO_SIZES) {
            due("size " + size, d.room(size), -3);
        }
    }

    /** As many as are told can be put, and no more. */
    private static void roomIsPut() {
        for (int rule = 0; rule < 3; rule++) {
            KeyDrive d = Setups.rich();
            d.batch(0);
            d.terms(0, rule);
            String before = Print.ofState(d);
            int n = d.room(46);
            Edge.due("on paper", Print.difference(Print.ofState(d), before), "");
            KeyDrive e = Setups.rich();
            e.batch(0);
            e.terms(0, rule);
            for (int i = 0; i < n; i++) {
                due("one fits", Check.putSize(e, Check.key(i + 100), 46), 9 + i);
            }
            due("then none does", Check.putSize(e, "zz", 46), -4);
        }
    }

    private static void sure() {
        Edge.promise(35);
        Edge.says("How many of them surely fit: how often it goes into what is behind END of PAGES that aren't FREE (RULE 0:"
                + " of the LAST alone), and into each FREE PAGE but one, together.");
        KeyDrive d = new KeyDrive();
        due("the least", d.sure(6), 230);
        due("the greatest", d.sure(52), 23);
        due("twice 32", d.sure(32), 46);
        KeyDrive full = Setups.full();
        due("the only free page doesn't count", full.sure(20), 0);
        due("behind the last", full.sure(18), 1);
        due("three times", full.sure(6), 3);
        due("once, though a bit is left", full.sure(10), 1);
        full.terms(0, 1);
        due("behind all by rule 1", full.sure(18), 23);
        full.terms(0, 2);
        due("by rule 2", full.sure(6), 69);
        full.batch(0);
        Check.remove(full, Check.key(22));
        full.sweep(22);
        due("one page more is free", full.sure(18), 22 + 3);
        KeyDrive last = Setups.halves();
        Check.remove(last, Check.key(0));
        last.sweep(0);
        due("behind END of page 23", last.sure(32), 1);
        KeyDrive e = new KeyDrive();
        Check.putSize(e, "aa", 46);
        Check.putSize(e, "bb", 40);
        due("behind the last, and 21 pages", e.sure(12), 2 + 21 * 5);
        e.terms(0, 2);
        due("behind both", e.sure(12), 1 + 2 + 21 * 5);
        Check.remove(e, "aa");
        due("dead ones don't count", e.sure(12), 1 + 2 + 21 * 5);
        e.terms(0, 0);
        Check.remove(e, "bb");
        e.sweep(1);
        due("by rule 0 without a last", e.sure(12), 22 * 5);
        Edge.says("-3.");
        for (int size : NO_SIZES) {
            due("size " + size, d.sure(size), -3);
        }
    }

    private static void would() {
        Edge.promise(36);
        Edge.says("How many PAGES would be SWEPT by one PUT of that SIZE of a new KEY.");
        KeyDrive d = Setups.halves();
        for (int i = 0; i < 3; i++) {
            Check.remove(d, Check.key(2 * i));
        }
        due("two", d.would(52), 2);
        due("one: the half that is left of the free page", d.would(32), 1);
        due("and the least", d.would(6), 1);
        due("two for one more", d.would(34), 2);
        due("on paper", d.wear(2), 0);
        KeyDrive none = Check.filled(22, 46);
        Check.remove(none, Check.key(0));
        due("none, while two are free", none.would(52), 0);
        KeyDrive last = Setups.full();
        last.batch(0);
        Check.remove(last, Check.key(0));
        due("none behind the last", last.would(18), 0);
        due("one else", last.would(20), 1);
        due("none at first", new KeyDrive().would(52), 0);
        d.sweep(0);
        due("those that were swept ahead don't count", d.would(52), 1);
        Edge.says("NONE: there is no room;");
        KeyDrive full = Setups.full();
        due("full", full.would(20), -1);
        due("not for less", full.would(18), 0);
        KeyDrive vain = Setups.halves();
        Check.remove(vain, Check.key(0));
        due("swept in vain", vain.would(34), -1);
        due("not in vain", vain.would(32), 1);
        Edge.says("-3.");
        for (int size : NO_SIZES) {
            due("size " + size, d.would(size), -3);
        }
    }

    private static void packs() {
        Edge.promise(37);
        Edge.says("How many PAGES all RECORDS that are LIVE would take, put by rising numbers onto as many FREE ones as need"
                + " be (more than 24, too), by a RULE (0 without any).");
        for (int rule = 0; rule < 3; rule++) {
            due("without any", new KeyDrive().packs(rule), 0);
            due("without one that is live", Setups.fullOfOld().packs(rule), 0);
            KeyDrive one = new KeyDrive();
            Check.put(one, "k", "");
            due("one", one.packs(rule), 1);
            Check.put(one, "12345678", "v".repeat(40));
            due("58 bytes", one.packs(rule), 1);
            Check.put(one, "l", "");
            due("just 64 bytes", one.packs(rule), 1);
            Check.put(one, "m", "");
            due("six more", one.packs(rule), 2);
        }
        packsMany();
        KeyDrive d = new KeyDrive();
        // By rising numbers 40, 44, 20, 24: the lowest spoils for 24 what the tightest leaves.
        for (int size : new int[] {40, 44, 20, 24}) {
            Check.putSize(d, "k" + (char) (200 - size), size);
        }
        due("by rule 0", d.packs(0), 3);
        due("by rule 1", d.packs(1), 3);
        due("by rule 2", d.packs(2), 2);
        KeyDrive e = new KeyDrive();
        for (int size : new int[] {44, 40, 20, 24}) {
            Check.putSize(e, "k" + (char) size, size);
        }
        due("the tightest is the lowest", e.packs(2), 2);
        Check.putSize(d, "k" + (char) 160, 40);
        due("the first is the last then: 44, 20, 24, 40", d.packs(0), 2);
        Edge.says("-3.");
        due("3", d.packs(3), -3);
        for (int rule : WILD) {
            due("" + rule, d.packs(rule), -3);
        }
    }

    /** First 23 records of 40, then 23 of 24: put into one another's pages they fill 23, behind one another far more. */
    private static void packsMany() {
        KeyDrive d = new KeyDrive();
        d.terms(0, 1);
        for (int i = 0; i < 23; i++) {
            Check.putSize(d, Check.key(i), 40);
        }
        for (int i = 0; i < 23; i++) {
            Check.putSize(d, Check.key(i + 50), 24);
        }
        due("one is free", d.count(1), 1);
        due("more than 24: 23 with one of the others, and 11", d.packs(0), 34);
        due("by rule 1", d.packs(1), 23);
        due("by rule 2", d.packs(2), 23);
        due("the best rule", d.best(0), 1);
    }

    private static void best() {
        Edge.promise(38);
        Edge.says("The RULE by which that is least, the lowest (what 0);");
        KeyDrive d = new KeyDrive();
        due("without any", d.best(0), 0);
        Check.putSize(d, "aa", 40);
        due("all alike", d.best(0), 0);
        Check.putSize(d, "bb", 44);
        Check.putSize(d, "cc", 20);
        due("all alike still", d.best(0), 0);
        Check.putSize(d, "dd", 24);
        due("the last alone", d.best(0), 2);
        Check.putSize(d, "aa", 30);
        due("44, 20, 24, 30: alike again", d.best(0), 0);
        KeyDrive e = new KeyDrive();
        for (int size : new int[] {40, 30, 24}) {
            Check.putSize(e, "k" + (char) size, size);
        }
        due("40, 30, 24: alike", e.best(0), 0);
        Check.putSize(e, "zz", 34);
        due("34 more: of 1 and 2 the lowest", e.best(0), 1);
        Edge.says("by RULE 1, the greatest SIZES first (of like ones by rising SEQ), how many (1).");
        due("without any", new KeyDrive().best(1), 0);
        KeyDrive f = new KeyDrive();
        for (int size : new int[] {22, 20, 18, 42, 44, 46}) {
            Check.putSize(f, "k" + (char) size, size);
        }
        due("by rising numbers four", f.packs(1), 4);
        due("the greatest first: three", f.best(1), 3);
        Check.put(f, "12345678", "v".repeat(40));
        due("the greatest size", f.best(1), 4);
        Check.put(f, "k", "");
        Check.put(f, "l", "");
        due("the least sizes behind it", f.best(1), 4);
        Check.put(f, "m", "");
        due("and one too many", f.best(1), 5);
        due("of old ones", Setups.fullOfOld().best(1), 0);
        // Rule 2 would take two pages for the former and three for the latter.
        due("by rule 1, for worse", greatestFirst(10, 10, 12, 24, 26, 44).best(1), 3);
        KeyDrive better = greatestFirst(6, 6, 10, 12, 22, 26, 44);
        due("for better", better.best(1), 2);
        Check.putSize(better, "zz", 46);
        due("one more", better.best(1), 3);
        Check.remove(better, "zz");
        due("removed", better.best(1), 2);
        Edge.says("-2.");
        due("2", d.best(2), -2);
        for (int what : WILD) {
            due("" + what, d.best(what), -2);
        }
    }

    private static KeyDrive greatestFirst(int... rising) {
        KeyDrive d = new KeyDrive();
        for (int i = 0; i < rising.length; i++) {
            Check.putSize(d, Check.key(i), rising[i]);
        }
        return d;
    }

    private static void wear() {
        Edge.promise(39);
        Edge.says("Bytes of RECORDS that were written, what 0: by PUTS, 1: by SWEEPING, 2: how many PAGES were SWEPT, 3: the"
                + " most ERASES of a PAGE, 4: the fewest.");
        KeyDrive d = new KeyDrive();
        wearIs(d, 0, 0, 0, 0, 0);
        Check.putSize(d, "aa", 20);
        Check.putSize(d, "bb", 30);
        wearIs(d, 50, 0, 0, 0, 0);
        d.snap(0);
        Check.remove(d, "aa");
        wearIs(d, 50, 0, 0, 0, 0);
        d.roll(0);
        wearIs(d, 70, 0, 0, 0, 0);
        d.unsnap(0);
        d.sweep(0);
        wearIs(d, 70, 30, 1, 1, 0);
        Check.remove(d, "aa");
        Check.remove(d, "bb");
        d.clear(24);
        wearIs(d, 70, 30, 2, 1, 0);
        KeyDrive all = new KeyDrive();
        Setups.wearOut(all, 23);
        due("all but one", all.wear(4), 0);
        due("by the rest", all.wear(3), 1);
        Setups.wearOut(all, 1);
        due("all", all.wear(4), 1);
        due("once", all.wear(3), 1);
        Setups.wearOut(all, 1);
        due("one twice", all.wear(3), 2);
        due("the others once", all.wear(4), 1);
        for (int p = 0; p < 3; p++) {
            due("page " + p + " never", allErasedBut(p).wear(4), 0);
            due("the others", allErasedBut(p).wear(3), 1);
        }
        wornLastPage();
        KeyDrive full = Setups.full();
        due("a put without room", full.put(2, 40), -4);
        wearIs(full, 23 * 46, 0, 0, 0, 0);
        Edge.says("-2.");
        due("5", d.wear(5), -2);
        for (int what : WILD) {
            due("" + what, d.wear(what), -2);
        }
    }

    /** A page is full while all others are erased once. */
    private static KeyDrive allErasedBut(int p) {
        KeyDrive d = new KeyDrive();
        Setups.wearOut(d, p);
        Check.putSize(d, "aa", 46);
        Check.putSize(d, "bb", 18);
        due("full", d.page(p, 0), 64);
        Setups.wearOut(d, 23 - p);
        return d;
    }

    /** Page 23 is erased twice, pages 0 and 1 once. */
    private static void wornLastPage() {
        KeyDrive d = Setups.halves();
        Check.remove(d, Check.key(0));
        d.sweep(0);
        Check.remove(d, Check.key(1));
        d.sweep(23);
        Check.putSize(d, "zz", 46);
        Check.remove(d, Check.key(2));
        d.sweep(1);
        Check.remove(d, Check.key(3));
        d.sweep(23);
        due("page 23", d.page(23, 5), 2);
        due("the most", d.wear(3), 2);
    }

    private static void wearIs(KeyDrive d, int... want) {
        for (int what = 0; what < 5; what++) {
            due("what " + what, d.wear(what), want[what]);
        }
    }
}
