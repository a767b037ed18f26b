/** Promises 26 to 39: terms, pages, sweeping and space. */
public final class SpaceTest {
    public static void main(String[] args) {
        terms();
        page();
        space();
        victim();
        sweep();
        sweepByRules();
        trim();
        clear();
        trimmed();
        room();
        sure();
        would();
        packs();
        best();
        wear();
        Check.end();
    }

    private static void due(String what, long got, long want) {
        Check.due(what, got, want);
    }

    private static void terms() {
        KeyDrive d = new KeyDrive();
        due("26 what ahead of v", d.terms(2, 3), -2);
        due("26 what -1", d.terms(-1, 0), -2);
        due("26 rule 3", d.terms(0, 3), -3);
        due("26 rule -1", d.terms(0, -1), -3);
        due("26 choice 3", d.terms(1, 3), -3);
        due("26 rule at first", d.terms(0, 2), 0);
        due("26 rule", d.terms(0, 1), 2);
        due("26 choice at first", d.terms(1, 2), 0);
        due("26 choice", d.terms(1, 0), 2);
        due("26 undone", d.undo(3), 1);
        due("26 rule then", d.terms(0, 0), 2);
        due("26 choice then", d.terms(1, 0), 0);
        placesByRule(0, 2);
        placesByRule(1, 0);
        placesByRule(2, 1);
        KeyDrive e = new KeyDrive();
        Check.putSize(e, "aa", 40);
        Check.putSize(e, "bb", 40);
        Check.putSize(e, "cc", 40);
        e.terms(0, 2);
        Check.putSize(e, "dd", 12);
        due("26 of like ones the lowest", e.count(3), 0);
    }

    /** Pages 0 (40 taken), 1 (46) and 2 (30, the LAST): where a record of 12 comes. */
    private static void placesByRule(int rule, int page) {
        KeyDrive d = new KeyDrive();
        Check.putSize(d, "aa", 40);
        Check.putSize(d, "bb", 46);
        Check.putSize(d, "cc", 30);
        d.terms(0, rule);
        Check.putSize(d, "dd", 12);
        due("26 place by rule " + rule, d.count(3), page);
        due("26 its page", Check.version(d, "dd", 0, 1), page);
    }

    private static void page() {
        KeyDrive d = new KeyDrive();
        due("27 page -1", d.page(-1, 0), -2);
        due("27 page 24", d.page(24, 0), -2);
        due("27 what 6", d.page(0, 6), -2);
        due("27 what -1", d.page(0, -1), -2);
        Check.putSize(d, "aa", 10);
        Check.putSize(d, "bb", 12);
        d.snap(0);
        Check.putSize(d, "aa", 14);
        Check.putSize(d, "cc", 16);
        Check.remove(d, "cc");
        due("27 END", d.page(0, 0), 52);
        due("27 LIVE", d.page(0, 1), 26);
        due("27 OLD", d.page(0, 2), 10);
        due("27 DEAD", d.page(0, 3), 16);
        due("27 records that aren't dead", d.page(0, 4), 3);
        due("27 ERASES", d.page(0, 5), 0);
        due("27 another", d.page(23, 0), 0);
        Check.putSize(d, "dd", 46);
        due("27 LIVE on another", d.page(1, 1), 46);
        due("27 LIVE as before", d.page(0, 1), 26);
        d.undo(1);
        d.sweep(0);
        due("27 free", d.page(0, 0), 0);
        due("27 no record", d.page(0, 4), 0);
        due("27 one more", d.page(0, 5), 1);
        due("27 what came", d.page(1, 0), 36);
        due("27 OLD there", d.page(1, 2), 10);
    }

    private static void space() {
        KeyDrive d = new KeyDrive();
        due("28 -1", d.space(-1), -2);
        due("28 5", d.space(5), -2);
        due("28 FREE", d.space(4), 1536);
        Check.putSize(d, "aa", 40);
        Check.putSize(d, "bb", 30);
        d.snap(1);
        Check.remove(d, "aa");
        Check.putSize(d, "bb", 20);
        Check.putSize(d, "bb", 8);
        due("28 LIVE", d.space(0), 8);
        due("28 OLD", d.space(1), 70);
        due("28 DEAD", d.space(2), 20);
        due("28 ENDS", d.space(3), 24 + 6);
        due("28 FREE but two", d.space(4), 22 * 64);
    }

    private static void victim() {
        KeyDrive d = new KeyDrive();
        due("29 -1", d.victim(-1), -3);
        due("29 3", d.victim(3), -3);
        due("29 none", d.victim(0), -1);
        Check.putSize(d, "aa", 20);
        Check.putSize(d, "ab", 44);
        Check.putSize(d, "ba", 22);
        Check.putSize(d, "bb", 42);
        Check.putSize(d, "ca", 20);
        Check.putSize(d, "cb", 10);
        due("29 none yet", d.victim(2), -1);
        Check.remove(d, "aa");
        Check.remove(d, "ba");
        Check.remove(d, "ca");
        due("29 most dead", d.victim(0), 1);
        due("29 fewest others", d.victim(1), 2);
        due("29 fewest erases, the lowest", d.victim(2), 0);
        Check.remove(d, "ab");
        due("29 most dead then", d.victim(0), 0);
        d.sweep(0);
        Check.putSize(d, "da", 40);
        due("29 most dead of two", d.victim(0), 1);
        KeyDrive e = worn();
        due("29 fewest erases", e.victim(2), 1);
        due("29 of like ones the lowest", e.victim(0), 0);
        due("29 of fewest others, too", e.victim(1), 0);
    }

    /** Pages 0 and 1 have 20 dead bytes and 44 others each; page 0 was erased once, page 1 never. */
    private static KeyDrive worn() {
        KeyDrive d = new KeyDrive();
        Check.putSize(d, "xx", 46);
        Check.remove(d, "xx");
        d.sweep(0);
        d.terms(0, 1);
        for (int p = 1; p < 24; p++) {
            Check.putSize(d, "p" + (char) (p + 64), 20);
            Check.putSize(d, "q" + (char) (p + 64), 10);
            Check.putSize(d, "r" + (char) (p + 64), 34);
        }
        due("29 the worn page comes last", d.page(0, 0), 0);
        Check.remove(d, "pB");
        Check.remove(d, "rB");
        d.sweep(2);
        due("29 as the only free one it takes what is swept", d.page(0, 0), 10);
        Check.putSize(d, "za", 20);
        Check.putSize(d, "zb", 34);
        Check.remove(d, "za");
        Check.remove(d, "pA");
        due("29 dead on page 0", d.page(0, 3), 20);
        due("29 dead on page 1", d.page(1, 3), 20);
        return d;
    }

    private static void sweep() {
        KeyDrive d = new KeyDrive();
        due("30 -1", d.sweep(-1), -2);
        due("30 24", d.sweep(24), -2);
        due("30 free", d.sweep(0), -5);
        Check.putSize(d, "aa", 10);
        due("30 no dead record", d.sweep(0), -5);
        Check.putSize(d, "bb", 12);
        Check.putSize(d, "cc", 14);
        Check.remove(d, "bb");
        due("30 bytes that came to others", d.sweep(0), 24);
        due("30 in order", Check.version(d, "aa", 0, 2), 0);
        due("30 behind one another", Check.version(d, "cc", 0, 2), 10);
        due("30 to the lowest of the fewest erases", Check.version(d, "cc", 0, 1), 1);
        due("30 LAST", d.count(3), 1);
        due("30 free then", d.page(0, 0), 0);
        due("30 one erase more", d.page(0, 5), 1);
        due("30 the value came along", Check.get(d, "cc", -1), 8);
        Check.due("30 whole", Check.answer(d), "vvvvvvvv");
        due("30 undone", d.undo(1), 4);
        due("30 as it was", d.page(0, 0), 36);
        valuesMove();
        KeyDrive e = new KeyDrive();
        Check.putSize(e, "aa", 10);
        Check.remove(e, "aa");
        due("30 nothing came to others", e.sweep(0), 0);
        due("30 it is the LAST no more", e.count(3), -1);
        Check.putSize(e, "bb", 10);
        due("30 the next one comes to a less worn page", e.count(3), 1);
    }

    private static void valuesMove() {
        KeyDrive d = new KeyDrive();
        Check.put(d, "a", "first one");
        Check.put(d, "b", "second");
        Check.put(d, "c", "third one here");
        Check.remove(d, "b");
        d.sweep(0);
        Check.put(d, "e", "something else, longer than both");
        due("30 nothing else is on its old place", Check.version(d, "e", 0, 1), 2);
        due("30 of the first", Check.get(d, "a", -1), 9);
        Check.due("30 the first value", Check.answer(d), "first one");
        due("30 of the third", Check.get(d, "c", -1), 14);
        Check.due("30 the third value", Check.answer(d), "third one here");
        Check.remove(d, "a");
        d.sweep(1);
        Check.get(d, "c", -1);
        Check.due("30 moved again", Check.answer(d), "third one here");
    }

    private static void sweepByRules() {
        KeyDrive d = new KeyDrive();
        Check.putSize(d, "aa", 30);
        Check.putSize(d, "ab", 12);
        Check.putSize(d, "ac", 22);
        Check.putSize(d, "ba", 40);
        Check.putSize(d, "ca", 46);
        Check.remove(d, "aa");
        d.terms(0, 2);
        due("30 both move", d.sweep(0), 34);
        due("30 the tightest first", Check.version(d, "ab", 0, 1), 2);
        due("30 then where it fits", Check.version(d, "ac", 0, 1), 1);
        d.undo(1);
        d.terms(0, 1);
        d.sweep(0);
        due("30 the lowest but itself", Check.version(d, "ab", 0, 1), 1);
        due("30 a free one, the others are full", Check.version(d, "ac", 0, 1), 3);
        d.undo(1);
        d.terms(0, 0);
        d.sweep(0);
        due("30 the LAST", Check.version(d, "ab", 0, 1), 2);
        due("30 else a free one", Check.version(d, "ac", 0, 1), 3);
    }

    private static void trim() {
        KeyDrive d = new KeyDrive();
        due("31 nothing", d.trim(), 24);
        due("31 can be undone all the same", d.count(6), 1);
        for (int i = 0; i < 4; i++) {
            Check.putSize(d, Check.key(i), 46);
        }
        d.snap(0);
        Check.open(d, 1, "", -1);
        for (int i = 0; i < 3; i++) {
            Check.putSize(d, Check.key(i), 8);
        }
        due("31 old is held", d.space(1), 3 * 46);
        due("31 free then", d.trim(), 22);
        due("31 snapshots hold nothing", d.count(4), 0);
        due("31 iterators are closed", d.count(5), 0);
        due("31 nothing is dead", d.space(2), 0);
        due("31 swept", d.wear(2), 3);
        due("31 undone", d.undo(1), 9);
        due("31 snapshot again", d.count(4), 1);
        due("31 iterator again", d.count(5), 2);
        due("31 old again", d.space(1), 3 * 46);
    }

    private static void clear() {
        KeyDrive d = Check.filled(6, 46);
        due("32 0", d.clear(0), -3);
        due("32 25", d.clear(25), -3);
        due("32 so many are", d.clear(1), 0);
        due("32 can be undone all the same", d.count(6), 7);
        due("32 none has a dead record", d.clear(24), 0);
        for (int i = 0; i < 4; i++) {
            Check.remove(d, Check.key(i));
        }
        due("32 till there are so many", d.clear(20), 2);
        due("32 free then", d.count(1), 20);
        due("32 by choice", d.page(0, 5) + d.page(1, 5), 2);
        due("32 the rest", d.clear(24), 2);
        due("32 free at last", d.count(1), 22);
        due("32 undone", d.undo(1), 9);
        due("32 as it was", d.count(1), 20);
    }

    private static void trimmed() {
        KeyDrive d = new KeyDrive();
        due("33 -1", d.trimmed(-1), -3);
        due("33 3", d.trimmed(3), -3);
        due("33 nothing", d.trimmed(0), 0);
        // Page 0 has 40 dead bytes and 20 others, page 2 has 44 dead ones alone and is the tightest for those 20.
        Check.putSize(d, "aa", 40);
        Check.putSize(d, "ab", 20);
        Check.putSize(d, "ba", 40);
        Check.putSize(d, "ca", 44);
        Check.remove(d, "aa");
        Check.remove(d, "ca");
        d.terms(0, 2);
        due("33 page 2 first, by its dead bytes", d.trimmed(0), 20);
        due("33 page 2 first, by its others", d.trimmed(1), 20);
        due("33 page 0 first: its record may move twice", d.trimmed(2), 40);
        due("33 on paper", d.space(2), 84);
        due("33 nothing was swept", d.wear(2), 0);
        d.sweep(0);
        due("33 without what was swept ahead", d.trimmed(0), 20);
        int calls = d.count(6);
        d.trimmed(0);
        due("33 can't be undone", d.count(6), calls);
    }

    private static void room() {
        KeyDrive d = new KeyDrive();
        for (int size : new int[] {5, 7, 4, 54, 0, -6, Integer.MAX_VALUE, Integer.MIN_VALUE}) {
            due("34 size", d.room(size), -3);
        }
        due("34 ten on each page but one", d.room(6), 230);
        due("34 four", d.room(16), 92);
        due("34 one", d.room(52), 23);
        KeyDrive e = Check.filled(23, 46);
        due("34 behind the LAST alone", e.room(6), 3);
        e.terms(0, 1);
        due("34 behind all", e.room(6), 69);
        due("34 nowhere", e.room(20), 0);
        Check.remove(e, Check.key(0));
        Check.remove(e, Check.key(1));
        due("34 by sweeping two", e.room(52), 2);
        due("34 by sweeping two, twice each, and one for nothing", e.room(32), 4);
        due("34 nothing was done", e.wear(2), 0);
        due("34 dead still", e.space(2), 92);
    }

    private static void sure() {
        KeyDrive d = new KeyDrive();
        for (int size : new int[] {5, 7, 4, 54, 0, -6}) {
            due("35 size", d.sure(size), -3);
        }
        due("35 ten on each page but one", d.sure(6), 230);
        Check.putSize(d, "aa", 46);
        Check.putSize(d, "bb", 44);
        due("35 behind the LAST, and 21 pages", d.sure(10), 2 + 21 * 6);
        d.terms(0, 2);
        due("35 behind both", d.sure(10), 3 + 21 * 6);
        d.terms(0, 0);
        Check.remove(d, "bb");
        due("35 dead ones give nothing", d.sure(10), 2 + 21 * 6);
        d.sweep(1);
        due("35 without a LAST", d.sure(10), 22 * 6);
    }

    private static void would() {
        KeyDrive d = new KeyDrive();
        for (int size : new int[] {5, 7, 4, 54, 0, -6}) {
            due("36 size", d.would(size), -3);
        }
        due("36 none", d.would(52), 0);
        KeyDrive e = Check.filled(23, 46);
        due("36 behind the LAST", e.would(18), 0);
        due("36 no room", e.would(20), -1);
        Check.remove(e, Check.key(4));
        due("36 one", e.would(20), 1);
        KeyDrive f = new KeyDrive();
        f.terms(0, 1);
        for (int i = 0; i < 46; i++) {
            Check.putSize(f, Check.key(i), 32);
        }
        Check.remove(f, Check.key(0));
        due("36 two halves are dead: its other half takes the free page", f.would(46), -1);
        Check.remove(f, Check.key(2));
        due("36 two pages", f.would(46), 2);
        due("36 on paper", f.wear(2), 0);
        f.sweep(0);
        due("36 without what was swept ahead", f.would(46), 1);
    }

    private static void packs() {
        KeyDrive d = new KeyDrive();
        due("37 -1", d.packs(-1), -3);
        due("37 3", d.packs(3), -3);
        due("37 without any", d.packs(1), 0);
        Check.putSize(d, "zz", 40);
        Check.putSize(d, "yy", 30);
        Check.putSize(d, "xx", 24);
        Check.putSize(d, "ww", 34);
        due("37 the LAST alone", d.packs(0), 3);
        due("37 the lowest", d.packs(1), 2);
        due("37 the tightest", d.packs(2), 2);
        Check.put(d, "ww", "");
        due("37 by rising numbers, LIVE alone", d.packs(0), 2);
        KeyDrive e = new KeyDrive();
        // Sizes 40, 44, 20, 24: the lowest page spoils 20 bytes that the tightest leaves to the last one.
        Check.putSize(e, "da", 40);
        Check.putSize(e, "ca", 44);
        Check.putSize(e, "ba", 20);
        Check.putSize(e, "aa", 24);
        due("37 by rule 1 in order", e.packs(1), 3);
        due("37 by rule 2 in order", e.packs(2), 2);
    }

    private static void best() {
        KeyDrive d = new KeyDrive();
        due("38 -1", d.best(-1), -2);
        due("38 2", d.best(2), -2);
        due("38 without any", d.best(0), 0);
        due("38 no page", d.best(1), 0);
        Check.putSize(d, "da", 40);
        due("38 all alike: the lowest", d.best(0), 0);
        Check.putSize(d, "ca", 44);
        Check.putSize(d, "ba", 20);
        due("38 the LAST is as good", d.best(0), 0);
        Check.putSize(d, "aa", 24);
        due("38 rule 2 is least", d.best(0), 2);
        KeyDrive e = new KeyDrive();
        for (int i = 0; i < 3; i++) {
            Check.putSize(e, "s" + i, 22);
        }
        for (int i = 0; i < 3; i++) {
            Check.putSize(e, "g" + i, 42);
        }
        due("38 in order they take four", e.packs(1), 4);
        due("38 the greatest first take three", e.best(1), 3);
        due("38 of like rules the lowest", e.best(0), 0);
        KeyDrive f = new KeyDrive();
        Check.putSize(f, "aa", 6);
        due("38 the least size counts", f.best(1), 1);
    }

    private static void wear() {
        KeyDrive d = new KeyDrive();
        due("39 -1", d.wear(-1), -2);
        due("39 5", d.wear(5), -2);
        Check.putSize(d, "aa", 20);
        Check.putSize(d, "ab", 30);
        Check.remove(d, "aa");
        d.sweep(0);
        Check.putSize(d, "ac", 10);
        due("39 by puts", d.wear(0), 60);
        due("39 by sweeping", d.wear(1), 30);
        due("39 pages swept", d.wear(2), 1);
        due("39 most erases", d.wear(3), 1);
        due("39 fewest erases", d.wear(4), 0);
        Check.remove(d, "ac");
        d.sweep(1);
        due("39 swept again", d.wear(2), 2);
        due("39 moved again", d.wear(1), 60);
        due("39 undone", d.undo(1), 6);
        due("39 as it was", d.wear(1), 30);
        KeyDrive e = new KeyDrive();
        for (int i = 0; i < 24; i++) {
            Check.putSize(e, "aa", 46);
            Check.remove(e, "aa");
            e.clear(24);
        }
        due("39 each was erased once", e.wear(4), 1);
        due("39 none twice", e.wear(3), 1);
    }
}
