/** What the promises' tests share: answers that are due, and texts brought to the tape. */
final class Check {
    static final int NONE = KeyDrive.NONE;
    private static int wrong;

    private Check() {
    }

    static void due(String what, long got, long want) {
        if (got != want) {
            wrong++;
            System.out.println(what + ": answered " + got + ", due is " + want);
        }
    }

    static void due(String what, String got, String want) {
        if (!got.equals(want)) {
            wrong++;
            System.out.println(what + ": answered '" + got + "', due is '" + want + "'");
        }
    }

    static void end() {
        if (wrong > 0) {
            System.exit(1);
        }
    }

    /** A text of signs 0 to 255, with zeros up to a multiple of twenty, comes to the tape. */
    static void tape(KeyDrive d, String text) {
        for (int at = 0; at < Math.max(1, text.length()); at += 20) {
            int[] words = new int[5];
            for (int i = 0; i < 20; i++) {
                int b = at + i < text.length() ? text.charAt(at + i) : 0;
                words[i / 4] |= b << (24 - 8 * (i % 4));
            }
            if (d.feed(words[0], words[1], words[2], words[3], words[4]) < 0) {
                throw new IllegalStateException("the tape has no room for '" + text + "'");
            }
        }
    }

    static int put(KeyDrive d, String key, String value) {
        tape(d, key + value);
        return d.put(key.length(), value.length());
    }

    /** A put of a record of a size: 46 at the most, if the key has two bytes. */
    static int putSize(KeyDrive d, String key, int size) {
        if (size % 2 != 0 || size > 44 + key.length()) {
            throw new IllegalArgumentException("no value makes a record of " + size + " with " + key);
        }
        return put(d, key, "v".repeat(size - 4 - key.length()));
    }

    static int get(KeyDrive d, String key, int at) {
        tape(d, key);
        return d.get(key.length(), at);
    }

    static int remove(KeyDrive d, String key) {
        tape(d, key);
        return d.remove(key.length());
    }

    static int versions(KeyDrive d, String key) {
        tape(d, key);
        return d.versions(key.length());
    }

    static int version(KeyDrive d, String key, int i, int what) {
        tape(d, key);
        return d.version(key.length(), i, what);
    }

    static int open(KeyDrive d, int i, String prefix, int at) {
        tape(d, prefix);
        return d.open(i, prefix.length(), at);
    }

    static int batch(KeyDrive d, String deeds) {
        tape(d, deeds);
        return d.batch(deeds.length());
    }

    static String deedPut(String key, String value) {
        return "\1" + (char) key.length() + (char) value.length() + key + value;
    }

    static String deedRemove(String key) {
        return "\2" + (char) key.length() + key;
    }

    static String answer(KeyDrive d) {
        StringBuilder text = new StringBuilder();
        for (int i = 0; d.answer(i) != NONE; i++) {
            text.append((char) d.answer(i));
        }
        return text.toString();
    }

    static String key(int i) {
        return "" + (char) ('A' + i / 10) + (char) ('0' + i % 10);
    }

    /** A drive with one record of a size on each of its first pages. */
    static KeyDrive filled(int pages, int size) {
        KeyDrive d = new KeyDrive();
        for (int i = 0; i < pages; i++) {
            putSize(d, key(i), size);
        }
        return d;
    }
}
