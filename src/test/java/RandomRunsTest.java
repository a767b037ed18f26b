import java.util.ArrayList;
import java.util.List;
import java.util.Random;

/** Long runs of calls, drawn from fixed seeds, on KeyDrive and on the model: every answer must be the same. */
public final class RandomRunsTest {
    private static final int RUNS = 1500;
    private static final int CALLS = 512;

    private final Random random;
    private final KeyDrive drive = new KeyDrive();
    private final Model model = new Model();
    private final List<String> told = new ArrayList<>();
    // What a run is like: few or many signs in keys, short or long values, how bold it is with wrong numbers.
    private final int signs;
    private final int keyMost;
    private final int valueMost;
    private final int wrongOdds;
    private final int writeWeight;
    private boolean wrong;

    private RandomRunsTest(long seed) {
        random = new Random(seed);
        signs = 1 + random.nextInt(5);
        keyMost = 1 + random.nextInt(random.nextBoolean() ? 3 : 8);
        valueMost = random.nextBoolean() ? 4 : 40;
        wrongOdds = 5 + random.nextInt(60);
        writeWeight = random.nextInt(60);
    }

    public static void main(String[] args) {
        int runs = args.length > 0 ? Integer.parseInt(args[0]) : RUNS;
        long first = args.length > 1 ? Long.parseLong(args[1]) : 1;
        int failed = 0;
        for (int i = 0; i < runs && failed < 3; i++) {
            RandomRunsTest run = new RandomRunsTest(first + i);
            if (!run.holds()) {
                failed++;
                System.out.println("seed " + (first + i) + ":");
                int from = Math.max(0, run.told.size() - 40);
                run.told.subList(from, run.told.size()).forEach(System.out::println);
            }
        }
        if (failed > 0) {
            System.exit(1);
        }
    }

    private boolean holds() {
        for (int i = 0; i < CALLS && !wrong; i++) {
            if (random.nextInt(100) < writeWeight) {
                write();
            } else {
                any();
            }
        }
        return !wrong;
    }

    private void due(String call, long got, long want) {
        if (!wrong) {
            told.add(call + " answered " + got + (got == want ? "" : ", due is " + want));
            wrong = got != want;
        }
    }

    private int sign() {
        int s = random.nextInt(signs);
        return s == 0 ? 0 : s == 1 ? 255 : 96 + s;
    }

    /** A number from low to high, now and then a wrong one. */
    private int number(int low, int high) {
        if (random.nextInt(wrongOdds) == 0) {
            int[] odd = {low - 1, high + 1, Integer.MIN_VALUE, Integer.MAX_VALUE, -1, 0, high + 7};
            return odd[random.nextInt(odd.length)];
        }
        return low + random.nextInt(high - low + 1);
    }

    private int keyLength() {
        return number(1, keyMost);
    }

    private void feedBytes(int[] bytes, int n) {
        int at = 0;
        while (at < n) {
            int[] words = new int[5];
            for (int i = 0; i < 20; i++) {
                words[i / 4] |= (at + i < n ? bytes[at + i] & 255 : 0) << (24 - 8 * (i % 4));
            }
            feed(words);
            at += 20;
        }
    }

    private void feed(int[] w) {
        due("feed(" + w[0] + ", " + w[1] + ", " + w[2] + ", " + w[3] + ", " + w[4] + ")",
                drive.feed(w[0], w[1], w[2], w[3], w[4]), model.feed(w[0], w[1], w[2], w[3], w[4]));
    }

    private void feedKeys() {
        int[] bytes = new int[20];
        for (int i = 0; i < 20; i++) {
            bytes[i] = sign();
        }
        if (model.tape.length < 20) {
            feedBytes(bytes, 20);
        }
    }

    private void write() {
        int kind = random.nextInt(5);
        if (kind == 0) {
            batch();
        } else if (kind == 1) {
            feedKeys();
            remove();
        } else {
            put();
        }
    }

    private void put() {
        int k = keyLength();
        int v = number(0, valueMost);
        int[] bytes = new int[60];
        for (int i = 0; i < 60; i++) {
            bytes[i] = i < 8 ? sign() : random.nextInt(256);
        }
        feedBytes(bytes, Math.max(1, Math.min(60 - model.tape.length, k + v)));
        due("put(" + k + ", " + v + ")", drive.put(k, v), model.put(k, v));
    }

    private void remove() {
        int k = keyLength();
        due("remove(" + k + ")", drive.remove(k), model.remove(k));
    }

    private void batch() {
        int[] bytes = new int[60];
        int n = 0;
        int room = 60 - model.tape.length;
        int deeds = random.nextInt(16);
        for (int i = 0; i < deeds; i++) {
            int k = 1 + random.nextInt(keyMost);
            int v = random.nextInt(1 + Math.min(valueMost, random.nextBoolean() ? 3 : 40));
            boolean put = random.nextInt(3) > 0;
            int need = put ? 3 + k + v : 2 + k;
            if (n + need > room) {
                break;
            }
            bytes[n++] = put ? 1 : 2;
            bytes[n++] = k;
            if (put) {
                bytes[n++] = v;
            }
            for (int j = 0; j < k; j++) {
                bytes[n++] = sign();
            }
            for (int j = 0; put && j < v; j++) {
                bytes[n++] = random.nextInt(256);
            }
        }
        if (n > 0 && random.nextInt(6) == 0) {
            bytes[random.nextInt(n)] = random.nextInt(256);
        }
        feedBytes(bytes, n);
        int whole = random.nextInt(12) == 0 ? number(0, 60) : n;
        due("batch(" + whole + ")", drive.batch(whole), model.batch(whole));
    }

    private void any() {
        switch (random.nextInt(6)) {
            case 0:
                withKey();
                break;
            case 1:
                moments();
                break;
            case 2:
                if (random.nextInt(4) == 0) {
                    changeSpace();
                } else {
                    tellSpace();
                }
                break;
            case 3:
                tellKeys();
                break;
            case 4:
                back();
                break;
            default:
                write();
                break;
        }
    }

    private void withKey() {
        feedKeys();
        int k = keyLength();
        switch (random.nextInt(7)) {
            case 0:
                due("versions(" + k + ")", drive.versions(k), model.versions(k));
                break;
            case 1:
                int i = number(0, 3);
                int what = number(0, 3);
                due("version(" + k + ", " + i + ", " + what + ")", drive.version(k, i, what), model.version(k, i, what));
                break;
            case 2:
                due("hash(" + k + ")", drive.hash(k), model.hash(k));
                break;
            case 3:
                due("seek(" + k + ")", drive.seek(k), model.seek(k));
                answers();
                break;
            case 4:
                int m = keyLength();
                due("between(" + k + ", " + m + ")", drive.between(k, m), model.between(k, m));
                break;
            default:
                int at = number(-1, random.nextBoolean() ? -1 : 3);
                due("get(" + k + ", " + at + ")", drive.get(k, at), model.get(k, at));
                answers();
                break;
        }
    }

    private void answers() {
        due("count(8)", drive.count(8), model.count(8));
        int i = number(0, 8);
        due("answer(" + i + ")", drive.answer(i), model.answer(i));
    }

    private void moments() {
        int s = number(0, 3);
        int i = number(0, 2);
        switch (random.nextInt(8)) {
            case 0:
            case 1:
                due("snap(" + s + ")", drive.snap(s), model.snap(s));
                break;
            case 2:
                due("unsnap(" + s + ")", drive.unsnap(s), model.unsnap(s));
                break;
            case 3:
                feedKeys();
                int k = number(0, 2);
                int at = number(-1, 3);
                due("open(" + i + ", " + k + ", " + at + ")", drive.open(i, k, at), model.open(i, k, at));
                break;
            case 4:
            case 5:
                due("next(" + i + ")", drive.next(i), model.next(i));
                answers();
                break;
            case 6:
                due("left(" + i + ")", drive.left(i), model.left(i));
                break;
            default:
                if (random.nextInt(3) == 0) {
                    due("close(" + i + ")", drive.close(i), model.close(i));
                } else {
                    due("roll(" + s + ")", drive.roll(s), model.roll(s));
                }
                break;
        }
    }

    private void changeSpace() {
        switch (random.nextInt(6)) {
            case 0:
            case 1:
                int what = number(0, 1);
                int v = number(0, 2);
                due("terms(" + what + ", " + v + ")", drive.terms(what, v), model.terms(what, v));
                break;
            case 2:
            case 3:
                int p = number(0, 23);
                due("sweep(" + p + ")", drive.sweep(p), model.sweep(p));
                break;
            case 4:
                int n = number(1, 24);
                due("clear(" + n + ")", drive.clear(n), model.clear(n));
                break;
            default:
                due("trim()", drive.trim(), model.trim());
                break;
        }
    }

    private void tellSpace() {
        int size = 2 * number(3, 26);
        int three = number(0, 2);
        switch (random.nextInt(10)) {
            case 0:
                int p = number(0, 23);
                int what = number(0, 5);
                due("page(" + p + ", " + what + ")", drive.page(p, what), model.page(p, what));
                break;
            case 1:
                int kind = number(0, 4);
                due("space(" + kind + ")", drive.space(kind), model.space(kind));
                break;
            case 2:
                due("victim(" + three + ")", drive.victim(three), model.victim(three));
                break;
            case 3:
                due("trimmed(" + three + ")", drive.trimmed(three), model.trimmed(three));
                break;
            case 4:
                due("room(" + size + ")", drive.room(size), model.room(size));
                break;
            case 5:
                due("sure(" + size + ")", drive.sure(size), model.sure(size));
                break;
            case 6:
                due("would(" + size + ")", drive.would(size), model.would(size));
                break;
            case 7:
                due("packs(" + three + ")", drive.packs(three), model.packs(three));
                break;
            case 8:
                int two = number(0, 1);
                due("best(" + two + ")", drive.best(two), model.best(two));
                break;
            default:
                int five = number(0, 4);
                due("wear(" + five + ")", drive.wear(five), model.wear(five));
                break;
        }
    }

    private void tellKeys() {
        int at = number(-1, 3);
        int two = number(0, 1);
        switch (random.nextInt(8)) {
            case 0:
                due("sum(" + at + ")", drive.sum(at), model.sum(at));
                break;
            case 1:
                due("keys(" + at + ")", drive.keys(at), model.keys(at));
                break;
            case 2:
                int n = number(1, 8);
                due("groups(" + n + ", " + two + ")", drive.groups(n, two), model.groups(n, two));
                break;
            case 3:
                due("alike(" + two + ")", drive.alike(two), model.alike(two));
                break;
            case 4:
                int s = number(0, 3);
                int what = number(0, 2);
                due("diff(" + s + ", " + what + ")", drive.diff(s, what), model.diff(s, what));
                break;
            case 5:
                int b = number(0, 7);
                int of = number(0, 2);
                due("bucket(" + b + ", " + of + ")", drive.bucket(b, of), model.bucket(b, of));
                break;
            case 6:
                int i = number(0, 2);
                due("index(" + i + ")", drive.index(i), model.index(i));
                break;
            default:
                due("fault(" + two + ")", drive.fault(two), model.fault(two));
                break;
        }
    }

    private void back() {
        int i = number(0, 1);
        switch (random.nextInt(8)) {
            case 0:
                int n = number(1, random.nextInt(3) == 0 ? 10 : 2);
                due("undo(" + n + ")", drive.undo(n), model.undo(n));
                break;
            case 1:
                due("image(" + i + ")", drive.image(i), model.image(i));
                break;
            case 2:
                if (random.nextInt(6) == 0) {
                    due("restore(" + i + ")", drive.restore(i), model.restore(i));
                }
                break;
            default:
                int what = number(0, 8);
                due("count(" + what + ")", drive.count(what), model.count(what));
                break;
        }
    }
}
