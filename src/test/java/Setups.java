/** Drives in states that several tests begin from; each is made by far fewer than 512 calls. */
final class Setups {
    private Setups() {
    }

    /**
     * Something of each kind. Seen now: a, ab, c; at snapshot 0 (moment 3): a, ab, b; at snapshot 2 (moment 6): a, ab, c.
     * Iterator 1 told a and will tell ab; twenty bytes are on the tape, the answer is "other", a fault was found.
     */
    static KeyDrive rich() {
        KeyDrive d = new KeyDrive();
        Check.put(d, "a", "first");
        Check.put(d, "ab", "second one");
        Check.put(d, "b", "");
        d.snap(0);
        Check.put(d, "ab", "other");
        Check.remove(d, "b");
        Check.put(d, "c", "v".repeat(40));
        d.snap(2);
        Check.put(d, "c", "short");
        Check.put(d, "c", "shorter");
        Check.open(d, 1, "a", 0);
        d.next(1);
        d.terms(0, 2);
        d.terms(1, 1);
        Check.batch(d, "\3");
        Check.get(d, "ab", -1);
        Check.tape(d, "abcdefghijklmnopqrst");
        return d;
    }

    /** No put of more than 18 bytes has room; sixty bytes are on the tape: key "zz". */
    static KeyDrive full() {
        KeyDrive d = Check.filled(23, 46);
        Check.tape(d, "zz" + "w".repeat(58));
        return d;
    }

    /** As full(), but all is old and held by snapshot 1 and iterator 0, so that it can't be put once more. */
    static KeyDrive fullOfOld() {
        KeyDrive d = Check.filled(23, 46);
        d.snap(1);
        Check.open(d, 0, "", -1);
        for (int i = 0; i < 23; i++) {
            Check.remove(d, Check.key(i));
        }
        Check.tape(d, "zz" + "w".repeat(58));
        return d;
    }

    /** Pages 0 to 22 are full with records of 32 bytes, two each; rule 1. */
    static KeyDrive halves() {
        KeyDrive d = new KeyDrive();
        d.terms(0, 1);
        for (int i = 0; i < 46; i++) {
            Check.putSize(d, Check.key(i), 32);
        }
        return d;
    }

    /** Pages 0 to 21 are full: "aA" to "aV" of 30 bytes ahead of "bA" to "bV" of 34; page 22 has "xx" of 20, "yy" of 10. */
    static KeyDrive uneven() {
        KeyDrive d = new KeyDrive();
        d.terms(0, 1);
        for (int p = 0; p < 22; p++) {
            Check.putSize(d, "a" + (char) ('A' + p), 30);
            Check.putSize(d, "b" + (char) ('A' + p), 34);
        }
        Check.putSize(d, "xx", 20);
        Check.putSize(d, "yy", 10);
        return d;
    }

    /** A page of a drive is written and erased some times; the drive is empty otherwise. */
    static void wearOut(KeyDrive d, int times) {
        for (int i = 0; i < times; i++) {
            Check.putSize(d, "ww", 6);
            Check.remove(d, "ww");
            d.sweep(d.count(3));
        }
    }
}
