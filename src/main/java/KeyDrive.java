/** A drive that keeps keys with their values itself; the document's promises say what each call does. */
public final class KeyDrive {
    public static final int NONE = -1;

    private static final int NONE_SUCH = -2;
    private static final int BAD_NUMBER = -3;
    private static final int NO_ROOM = -4;
    private static final int NOT_NOW = -5;
    private static final int MISSING = -6;
    private static final int FAULTY = -30;

    private static final int KEY_MOST = 8;
    private static final int VALUE_MOST = 40;
    private static final int TAPE_MOST = 60;
    private static final long SIGN = 1L << 63;
    private static final int HASHES = 8191;
    private static final int BUCKETS = 8;
    private static final int HOT_MOST = 3;

    private static final int PAGES = 24;
    private static final int PAGE_BYTES = 64;
    private static final int HEADER = 4;
    private static final int SIZE_LEAST = 6;
    private static final int SIZE_MOST = 52;
    // A page has room for ten records of the least size, and for no more of any.
    private static final int SLOTS = 10;
    private static final int RECORDS = PAGES * SLOTS;

    private static final int SNAPSHOTS = 4;
    private static final int ITERATORS = 3;
    private static final int MOMENTS = SNAPSHOTS + ITERATORS;
    // Each moment that is held keeps one version, the latest stays, and a new one comes before others go.
    private static final int VERSIONS = MOMENTS + 2;

    private static final int RULES = 3;
    private static final int CHOICES = 3;
    private static final int UNDO_MOST = 10;
    private static final int IMAGES = 2;

    private static final int DEED_PUT = 1;
    private static final int DEED_REMOVE = 2;
    // The shortest deed takes three of the tape's bytes.
    private static final int DEEDS = TAPE_MOST / 3;

    private final Row tape = new Row(TAPE_MOST);
    private final Row reply = new Row(VALUE_MOST);
    private final Row carried = new Row(VALUE_MOST);
    private final Deeds deeds = new Deeds();
    private final Buckets buckets = new Buckets();
    private final Packing packing = new Packing();
    private final Pages paper = new Pages();
    private final Drive[] past = new Drive[UNDO_MOST];
    private final Drive[] images = new Drive[IMAGES];
    private int undoable;
    private Drive drive = new Drive();
    private Drive spare = new Drive();

    public KeyDrive() {
    }

    // ---- keys, values

    public int feed(int a, int b, int c, int d, int e) {
        if (tape.length + 20 > TAPE_MOST) {
            return NO_ROOM;
        }
        tape.addWord(a);
        tape.addWord(b);
        tape.addWord(c);
        tape.addWord(d);
        tape.addWord(e);
        return tape.length;
    }

    public int put(int k, int v) {
        if (!isKeyLength(k) || v < 0 || v > VALUE_MOST || k + v > tape.length) {
            return BAD_NUMBER;
        }
        long bits = tape.bitsAt(0, k);
        keepState();
        if (!drive.write(bits, k, tape, k, v)) {
            takeBack();
            return NO_ROOM;
        }
        makeUndoable();
        tape.length = 0;
        touchBucket(bits, k, true);
        return drive.seq;
    }

    public int get(int k, int at) {
        int moment = momentOf(at);
        if (moment == NONE_SUCH) {
            return NONE_SUCH;
        }
        if (!isOnTape(k)) {
            return BAD_NUMBER;
        }
        if (moment == MISSING) {
            return MISSING;
        }
        long bits = takeKey(k);
        touchBucket(bits, k, false);
        int record = drive.keys.seenAt(drive.keys.positionOf(bits, k), moment);
        drive.pages.readValue(record, reply);
        return record == NONE ? NONE : reply.length;
    }

    public int answer(int i) {
        return i < 0 || i >= reply.length ? NONE : reply.byteAt(i);
    }

    public int remove(int k) {
        if (!isOnTape(k)) {
            return BAD_NUMBER;
        }
        long bits = takeKey(k);
        int position = drive.keys.positionOf(bits, k);
        boolean seen = drive.keys.seenAt(position, drive.seq) != NONE;
        touchBucket(bits, k, seen);
        if (!seen) {
            return NONE;
        }
        keepState();
        int dead = drive.strike(position);
        makeUndoable();
        return dead;
    }

    public int versions(int k) {
        if (!isOnTape(k)) {
            return BAD_NUMBER;
        }
        long bits = takeKey(k);
        return drive.keys.versionsAt(drive.keys.positionOf(bits, k));
    }

    public int version(int k, int i, int what) {
        if (what < 0 || what > 3) {
            return NONE_SUCH;
        }
        if (!isOnTape(k)) {
            return BAD_NUMBER;
        }
        long bits = takeKey(k);
        int position = drive.keys.positionOf(bits, k);
        if (i < 0 || i >= drive.keys.versionsAt(position)) {
            return NONE;
        }
        if (what == 0) {
            return drive.keys.numberAt(position, i);
        }
        return drive.pages.tellRecord(drive.keys.recordAt(position, i), what);
    }

    public int hash(int k) {
        if (!isOnTape(k)) {
            return BAD_NUMBER;
        }
        return hashOf(takeKey(k), k);
    }

    public int batch(int n) {
        if (n < 0 || n > tape.length) {
            return BAD_NUMBER;
        }
        deeds.read(tape, n);
        if (deeds.fault != 0) {
            tape.length = 0;
            return FAULTY - deeds.fault;
        }
        keepState();
        int done = deeds.carryOut(drive, tape);
        if (done == NO_ROOM) {
            takeBack();
        } else {
            makeUndoable();
            touchDeeds();
        }
        tape.length = 0;
        return done;
    }

    public int fault(int what) {
        switch (what) {
            case 0:
                return deeds.fault;
            case 1:
                return deeds.place;
            default:
                return NONE;
        }
    }

    public int seek(int k) {
        if (!isOnTape(k)) {
            return BAD_NUMBER;
        }
        long bits = takeKey(k);
        reply.length = 0;
        Keys keys = drive.keys;
        for (int i = keys.firstNotAhead(bits, k); i < keys.count; i++) {
            if (keys.seenAt(i, drive.seq) != NONE) {
                reply.addKey(keys.bitsAt(i), keys.lengthAt(i));
                return reply.length;
            }
        }
        return NONE;
    }

    public int between(int k, int m) {
        if (!isKeyLength(k) || !isKeyLength(m) || k + m > tape.length) {
            return BAD_NUMBER;
        }
        long from = tape.bitsAt(0, k);
        long to = tape.bitsAt(k, m);
        tape.length = 0;
        int end = drive.keys.firstNotAhead(to, m);
        int found = 0;
        for (int i = drive.keys.firstNotAhead(from, k); i < end; i++) {
            if (drive.keys.seenAt(i, drive.seq) != NONE) {
                found++;
            }
        }
        return found;
    }

    public int diff(int at, int what) {
        if (!isSnapshot(at) || what < 0 || what > 2) {
            return NONE_SUCH;
        }
        int moment = momentOf(at);
        if (moment < 0) {
            return moment;
        }
        int found = 0;
        for (int i = 0; i < drive.keys.count; i++) {
            if (differs(drive.keys.seenAt(i, drive.seq), drive.keys.seenAt(i, moment), what)) {
                found++;
            }
        }
        return found;
    }

    public int roll(int s) {
        if (!isSnapshot(s)) {
            return NONE_SUCH;
        }
        int moment = momentOf(s);
        if (moment < 0) {
            return moment;
        }
        keepState();
        int done = drive.rollTo(moment, carried);
        if (done == NO_ROOM) {
            takeBack();
        } else {
            makeUndoable();
        }
        return done;
    }

    public int keys(int at) {
        int moment = momentOf(at);
        if (moment < 0) {
            return moment;
        }
        return drive.tellable(moment, 0L, 0);
    }

    public int groups(int n, int what) {
        if (what < 0 || what > 1) {
            return NONE_SUCH;
        }
        if (!isKeyLength(n)) {
            return BAD_NUMBER;
        }
        int unlike = 0;
        int most = 0;
        int run = 0;
        int before = NONE;
        Keys keys = drive.keys;
        for (int i = 0; i < keys.count; i++) {
            if (keys.lengthAt(i) < n || keys.seenAt(i, drive.seq) == NONE) {
                continue;
            }
            // Keys with one beginning stand side by side, so a run of them is a whole group.
            if (before == NONE || keys.alikeAt(before, i) < n) {
                unlike++;
                run = 0;
            }
            run++;
            most = Math.max(most, run);
            before = i;
        }
        return what == 0 ? unlike : most;
    }

    public int alike(int what) {
        if (what < 0 || what > 1) {
            return NONE_SUCH;
        }
        Keys keys = drive.keys;
        int first = NONE;
        int before = NONE;
        int most = 0;
        for (int i = 0; i < keys.count; i++) {
            if (keys.seenAt(i, drive.seq) == NONE) {
                continue;
            }
            if (first == NONE) {
                first = i;
            } else {
                // No two keys have more alike than two neighbours.
                most = Math.max(most, keys.alikeAt(before, i));
            }
            before = i;
        }
        if (what == 1) {
            return most;
        }
        return first == NONE ? 0 : keys.alikeAt(first, before);
    }

    public long sum(int at) {
        int moment = momentOf(at);
        if (moment < 0) {
            return moment;
        }
        long sum = 7;
        for (int i = 0; i < drive.keys.count; i++) {
            int record = drive.keys.seenAt(i, moment);
            if (record != NONE) {
                carried.length = 0;
                carried.addKey(drive.keys.bitsAt(i), drive.keys.lengthAt(i));
                sum = carried.addedTo(sum);
                drive.pages.readValue(record, carried);
                sum = carried.addedTo(31 * sum + carried.length);
            }
        }
        return sum;
    }

    // ---- moments

    public int snap(int s) {
        if (!isSnapshot(s)) {
            return NONE_SUCH;
        }
        if (drive.moments.heldAt(s) != NONE) {
            return NOT_NOW;
        }
        keepState();
        drive.moments.hold(s, drive.seq);
        makeUndoable();
        return drive.seq;
    }

    public int unsnap(int s) {
        if (!isSnapshot(s)) {
            return NONE_SUCH;
        }
        if (drive.moments.heldAt(s) == NONE) {
            return MISSING;
        }
        return release(s);
    }

    public int open(int i, int k, int at) {
        int moment = momentOf(at);
        if (!isIterator(i) || moment == NONE_SUCH) {
            return NONE_SUCH;
        }
        if (isOpen(i)) {
            return NOT_NOW;
        }
        if (k < 0 || k > KEY_MOST || k > tape.length) {
            return BAD_NUMBER;
        }
        if (moment == MISSING) {
            return MISSING;
        }
        long prefix = takeKey(k);
        keepState();
        drive.moments.start(i, moment, prefix, k);
        makeUndoable();
        return drive.tellable(moment, prefix, k);
    }

    public int next(int i) {
        if (!isIterator(i)) {
            return NONE_SUCH;
        }
        if (!isOpen(i)) {
            return MISSING;
        }
        reply.length = 0;
        int position = drive.nextOf(i);
        if (position == NONE) {
            release(SNAPSHOTS + i);
            return NONE;
        }
        reply.addKey(drive.keys.bitsAt(position), drive.keys.lengthAt(position));
        keepState();
        drive.moments.advance(i);
        makeUndoable();
        return reply.length;
    }

    public int left(int i) {
        if (!isIterator(i)) {
            return NONE_SUCH;
        }
        if (!isOpen(i)) {
            return MISSING;
        }
        return drive.leftOf(i);
    }

    public int close(int i) {
        if (!isIterator(i)) {
            return NONE_SUCH;
        }
        if (!isOpen(i)) {
            return MISSING;
        }
        return release(SNAPSHOTS + i);
    }

    // ---- space

    public int terms(int what, int v) {
        if (what < 0 || what > 1) {
            return NONE_SUCH;
        }
        if (v < 0 || v >= (what == 0 ? RULES : CHOICES)) {
            return BAD_NUMBER;
        }
        keepState();
        int before;
        if (what == 0) {
            before = drive.pages.rule;
            drive.pages.rule = v;
        } else {
            before = drive.pages.choice;
            drive.pages.choice = v;
        }
        makeUndoable();
        return before;
    }

    public int page(int p, int what) {
        if (!isPage(p)) {
            return NONE_SUCH;
        }
        Pages pages = drive.pages;
        switch (what) {
            case 0:
                return pages.endOf(p);
            case 1:
                return drive.liveOn(p);
            case 2:
                return pages.endOf(p) - pages.deadOn(p) - drive.liveOn(p);
            case 3:
                return pages.deadOn(p);
            case 4:
                return pages.recordsOn(p);
            case 5:
                return pages.erasesOf(p);
            default:
                return NONE_SUCH;
        }
    }

    public int space(int what) {
        switch (what) {
            case 0:
                return drive.liveBytes();
            case 1:
                return drive.pages.written() - drive.pages.deadBytes() - drive.liveBytes();
            case 2:
                return drive.pages.deadBytes();
            case 3:
                return (PAGES - drive.pages.freePages()) * PAGE_BYTES - drive.pages.written();
            case 4:
                return drive.pages.freePages() * PAGE_BYTES;
            default:
                return NONE_SUCH;
        }
    }

    public int victim(int choice) {
        if (choice < 0 || choice >= CHOICES) {
            return BAD_NUMBER;
        }
        return drive.pages.chosen(choice);
    }

    public int sweep(int p) {
        if (!isPage(p)) {
            return NONE_SUCH;
        }
        if (drive.pages.deadOn(p) == 0) {
            return NOT_NOW;
        }
        keepState();
        int moved = drive.pages.wipe(p);
        makeUndoable();
        return moved;
    }

    public int trim() {
        keepState();
        drive.moments.releaseAll();
        drive.settleAll();
        drive.pages.wipeTill(PAGES, drive.pages.choice);
        makeUndoable();
        return drive.pages.freePages();
    }

    public int clear(int n) {
        if (n < 1 || n > PAGES) {
            return BAD_NUMBER;
        }
        keepState();
        int before = drive.pages.sweeps;
        drive.pages.wipeTill(n, drive.pages.choice);
        makeUndoable();
        return drive.pages.sweeps - before;
    }

    public int trimmed(int choice) {
        if (choice < 0 || choice >= CHOICES) {
            return BAD_NUMBER;
        }
        paper.copyFrom(drive.pages);
        paper.wipeTill(PAGES, choice);
        return paper.sweptBytes - drive.pages.sweptBytes;
    }

    public int room(int size) {
        if (!isSize(size)) {
            return BAD_NUMBER;
        }
        paper.copyFrom(drive.pages);
        int fit = 0;
        while (fit < RECORDS && paper.admit(size, paper.makeRoom(size)) != NONE) {
            fit++;
        }
        return fit;
    }

    public int sure(int size) {
        if (!isSize(size)) {
            return BAD_NUMBER;
        }
        return drive.pages.surelyFit(size);
    }

    public int would(int size) {
        if (!isSize(size)) {
            return BAD_NUMBER;
        }
        paper.copyFrom(drive.pages);
        if (paper.makeRoom(size) == NONE) {
            return NONE;
        }
        return paper.sweeps - drive.pages.sweeps;
    }

    public int packs(int rule) {
        if (rule < 0 || rule >= RULES) {
            return BAD_NUMBER;
        }
        packing.gather(drive);
        return packing.byNumber(rule);
    }

    public int best(int what) {
        if (what < 0 || what > 1) {
            return NONE_SUCH;
        }
        packing.gather(drive);
        if (what == 1) {
            return packing.bySize();
        }
        int best = 0;
        int least = packing.byNumber(0);
        for (int rule = 1; rule < RULES; rule++) {
            int pages = packing.byNumber(rule);
            if (pages < least) {
                least = pages;
                best = rule;
            }
        }
        return best;
    }

    public int wear(int what) {
        switch (what) {
            case 0:
                return drive.pages.putBytes;
            case 1:
                return drive.pages.sweptBytes;
            case 2:
                return drive.pages.sweeps;
            case 3:
                return drive.pages.mostErases();
            case 4:
                return drive.pages.fewestErases();
            default:
                return NONE_SUCH;
        }
    }

    // ---- the index

    public int bucket(int b, int what) {
        if (b < 0 || b >= BUCKETS) {
            return NONE_SUCH;
        }
        switch (what) {
            case 0:
                return buckets.placeOf(b);
            case 1:
                return drive.keysOfBucket(b);
            case 2:
                return buckets.isChanged(b) ? 1 : 0;
            default:
                return NONE_SUCH;
        }
    }

    public int index(int what) {
        switch (what) {
            case 0:
                return buckets.hits;
            case 1:
                return buckets.loads;
            case 2:
                return buckets.stores;
            default:
                return NONE_SUCH;
        }
    }

    // ---- back

    public int undo(int n) {
        if (n < 1 || n > undoable) {
            return BAD_NUMBER;
        }
        for (int i = 0; i < n && undoable > 0; i++) {
            undoable--;
            Drive before = past[undoable];
            if (before != null) {
                past[undoable] = drive;
                drive = before;
            }
        }
        return undoable;
    }

    public int image(int i) {
        if (i < 0 || i >= IMAGES) {
            return NONE_SUCH;
        }
        Drive image = images[i];
        if (image == null) {
            image = new Drive();
            images[i] = image;
        }
        image.copyFrom(drive);
        return 0;
    }

    public int restore(int i) {
        if (i < 0 || i >= IMAGES) {
            return NONE_SUCH;
        }
        Drive image = images[i];
        if (image == null) {
            return MISSING;
        }
        drive.copyFrom(image);
        undoable = 0;
        return 0;
    }

    public int count(int what) {
        switch (what) {
            case 0:
                return drive.seq;
            case 1:
                return drive.pages.freePages();
            case 2:
                return drive.keys.allVersions();
            case 3:
                return drive.pages.last;
            case 4:
                return drive.moments.bits(0, SNAPSHOTS);
            case 5:
                return drive.moments.bits(SNAPSHOTS, ITERATORS);
            case 6:
                return undoable;
            case 7:
                return tape.length;
            case 8:
                return reply.length;
            default:
                return NONE;
        }
    }

    // ---- what the calls share

    private static boolean isKeyLength(int k) {
        return k >= 1 && k <= KEY_MOST;
    }

    private static boolean isSnapshot(int s) {
        return s >= 0 && s < SNAPSHOTS;
    }

    private static boolean isIterator(int i) {
        return i >= 0 && i < ITERATORS;
    }

    private static boolean isPage(int p) {
        return p >= 0 && p < PAGES;
    }

    private static boolean isRecord(int record) {
        return record >= 0 && record < RECORDS;
    }

    private static boolean isSize(int size) {
        return size >= SIZE_LEAST && size <= SIZE_MOST && (size & 1) == 0;
    }

    private static int sizeOf(int keyLength, int valueLength) {
        int size = HEADER + keyLength + valueLength;
        return size + (size & 1);
    }

    /** A key's bytes stand in a long from its highest byte on, with zeros behind them. */
    private static int keyByte(long bits, int i) {
        return (int) (bits >>> (56 - 8 * i)) & 255;
    }

    private static int hashOf(long bits, int length) {
        int h = 0;
        for (int i = 0; i < length; i++) {
            h = (31 * h + keyByte(bits, i)) % HASHES;
        }
        return h;
    }

    private static int bucketOf(long bits, int length) {
        return hashOf(bits, length) % BUCKETS;
    }

    private static boolean isAhead(long bits, int length, long otherBits, int otherLength) {
        if (bits == otherBits) {
            return length < otherLength;
        }
        // Bytes have no sign, but longs are compared with theirs.
        return (bits ^ SIGN) < (otherBits ^ SIGN);
    }

    private static int alikeBytes(long bits, int length, long otherBits, int otherLength) {
        int most = Math.min(length, otherLength);
        for (int i = 0; i < most; i++) {
            if (keyByte(bits, i) != keyByte(otherBits, i)) {
                return i;
            }
        }
        return most;
    }

    private static boolean differs(int now, int then, int what) {
        if (what == 0) {
            return now != NONE && then == NONE;
        }
        if (what == 1) {
            return now == NONE && then != NONE;
        }
        return now != NONE && then != NONE && now != then;
    }

    private boolean isOnTape(int k) {
        return isKeyLength(k) && k <= tape.length;
    }

    private long takeKey(int k) {
        long bits = tape.bitsAt(0, k);
        tape.length = 0;
        return bits;
    }

    private boolean isOpen(int i) {
        return drive.moments.heldAt(SNAPSHOTS + i) != NONE;
    }

    /** The moment that a call means by NONE or by a snapshot's number, or the code by which it is refused. */
    private int momentOf(int at) {
        if (at == NONE) {
            return drive.seq;
        }
        if (!isSnapshot(at)) {
            return NONE_SUCH;
        }
        int moment = drive.moments.heldAt(at);
        return moment == NONE ? MISSING : moment;
    }

    private int release(int holder) {
        keepState();
        drive.moments.hold(holder, NONE);
        int dead = drive.settleAll();
        makeUndoable();
        return dead;
    }

    private void touchBucket(long bits, int length, boolean changes) {
        int b = bucketOf(bits, length);
        buckets.touch(b);
        if (changes) {
            buckets.change(b);
        }
    }

    private void touchDeeds() {
        for (int i = 0; i < deeds.count; i++) {
            touchBucket(deeds.bitsOf(i, tape), deeds.keyLengthOf(i), deeds.wasDone(i));
        }
    }

    private void keepState() {
        // States are made when they are first needed: most objects undo little.
        if (spare == null) {
            spare = new Drive();
        }
        spare.copyFrom(drive);
    }

    private void takeBack() {
        if (spare != null) {
            Drive tried = drive;
            drive = spare;
            spare = tried;
        }
    }

    private void makeUndoable() {
        if (undoable < UNDO_MOST) {
            Drive unused = past[undoable];
            past[undoable] = spare;
            undoable++;
            spare = unused;
            return;
        }
        Drive eldest = past[0];
        for (int i = 1; i < UNDO_MOST; i++) {
            past[i - 1] = past[i];
        }
        past[UNDO_MOST - 1] = spare;
        spare = eldest;
    }

    /** Bytes behind one another, up to a bound. */
    private static final class Row {
        final int[] bytes;
        int length;

        Row(int most) {
            bytes = new int[Math.max(0, most)];
        }

        int byteAt(int i) {
            return i < 0 || i >= length || i >= bytes.length ? 0 : bytes[i];
        }

        void addByte(int value) {
            if (length >= 0 && length < bytes.length) {
                bytes[length] = value & 255;
                length++;
            }
        }

        void addWord(int word) {
            addByte(word >>> 24);
            addByte(word >>> 16);
            addByte(word >>> 8);
            addByte(word);
        }

        void addKey(long bits, int keyLength) {
            for (int i = 0; i < keyLength; i++) {
                addByte(keyByte(bits, i));
            }
        }

        long bitsAt(int from, int keyLength) {
            long bits = 0;
            for (int i = 0; i < KEY_MOST; i++) {
                bits = bits << 8 | (i < keyLength ? byteAt(from + i) : 0);
            }
            return bits;
        }

        long addedTo(long start) {
            long sum = start;
            for (int i = 0; i < length; i++) {
                sum = 31 * sum + byteAt(i);
            }
            return sum;
        }
    }

    /** What batch() reads from the tape. The fault is of the tape, so it is not undone. */
    private static final class Deeds {
        int fault;
        int place = NONE;
        int count;
        final int[] kind = new int[DEEDS];
        final int[] keyFrom = new int[DEEDS];
        final int[] keyLength = new int[DEEDS];
        final int[] valueLength = new int[DEEDS];
        final boolean[] done = new boolean[DEEDS];

        void read(Row tape, int n) {
            fault = 0;
            place = NONE;
            count = 0;
            int at = 0;
            for (int i = 0; i < DEEDS && at < n && fault == 0; i++) {
                at = readDeed(tape, at, n);
            }
        }

        /** Where the next deed begins. */
        int readDeed(Row tape, int at, int n) {
            int begin = tape.byteAt(at);
            if (begin != DEED_PUT && begin != DEED_REMOVE) {
                return findFault(1, at, n);
            }
            if (at + 1 >= n) {
                return findFault(2, n, n);
            }
            int k = tape.byteAt(at + 1);
            if (!isKeyLength(k)) {
                return findFault(3, at + 1, n);
            }
            int from = at + 2;
            int v = 0;
            if (begin == DEED_PUT) {
                if (from >= n) {
                    return findFault(2, n, n);
                }
                v = tape.byteAt(from);
                if (v > VALUE_MOST) {
                    return findFault(3, from, n);
                }
                from++;
            }
            if (from + k + v > n) {
                return findFault(2, n, n);
            }
            addDeed(begin, from, k, v);
            return from + k + v;
        }

        int findFault(int what, int where, int n) {
            fault = what;
            place = where;
            return n;
        }

        void addDeed(int begin, int from, int k, int v) {
            if (count < 0 || count >= DEEDS) {
                return;
            }
            kind[count] = begin;
            keyFrom[count] = from;
            keyLength[count] = k;
            valueLength[count] = v;
            done[count] = false;
            count++;
        }

        boolean isDeed(int i) {
            return i >= 0 && i < count && i < DEEDS;
        }

        long bitsOf(int i, Row tape) {
            return isDeed(i) ? tape.bitsAt(keyFrom[i], keyLength[i]) : 0L;
        }

        int keyLengthOf(int i) {
            return isDeed(i) ? keyLength[i] : 0;
        }

        boolean wasDone(int i) {
            return isDeed(i) && done[i];
        }

        /** How many changed a key, or NO_ROOM; the caller takes back what was done till then. */
        int carryOut(Drive drive, Row tape) {
            int changes = 0;
            for (int i = 0; i < count && i < DEEDS; i++) {
                long bits = bitsOf(i, tape);
                int k = keyLength[i];
                if (kind[i] == DEED_PUT) {
                    if (!drive.write(bits, k, tape, keyFrom[i] + k, valueLength[i])) {
                        return NO_ROOM;
                    }
                    done[i] = true;
                } else {
                    int position = drive.keys.positionOf(bits, k);
                    done[i] = drive.keys.seenAt(position, drive.seq) != NONE;
                    if (done[i]) {
                        drive.strike(position);
                    }
                }
                if (done[i]) {
                    changes++;
                }
            }
            return changes;
        }
    }

    /** Which buckets of the index are hot, and what that cost. */
    private static final class Buckets {
        int hits;
        int loads;
        int stores;
        int hotCount;
        final int[] hot = new int[HOT_MOST];
        final boolean[] changed = new boolean[BUCKETS];

        int placeOf(int b) {
            for (int i = 0; i < hotCount && i < HOT_MOST; i++) {
                if (hot[i] == b) {
                    return i;
                }
            }
            return NONE;
        }

        boolean isChanged(int b) {
            return b >= 0 && b < BUCKETS && placeOf(b) != NONE && changed[b];
        }

        void change(int b) {
            if (b >= 0 && b < BUCKETS) {
                changed[b] = true;
            }
        }

        void touch(int b) {
            if (b < 0 || b >= BUCKETS) {
                return;
            }
            int from = placeOf(b);
            if (from == NONE) {
                loads++;
                from = makeWay();
                changed[b] = false;
            } else {
                hits++;
            }
            for (int i = Math.min(from, HOT_MOST - 1); i > 0; i--) {
                hot[i] = hot[i - 1];
            }
            hot[0] = b;
        }

        /** The place of those that are hot which may be written over. */
        int makeWay() {
            if (hotCount < HOT_MOST) {
                hotCount++;
                return hotCount - 1;
            }
            if (isChanged(hot[HOT_MOST - 1])) {
                stores++;
            }
            return HOT_MOST - 1;
        }
    }

    /** All that an image keeps and that undo() brings back. */
    private static final class Drive {
        int seq;
        final Pages pages = new Pages();
        final Keys keys = new Keys();
        final Moments moments = new Moments();

        void copyFrom(Drive other) {
            seq = other.seq;
            pages.copyFrom(other.pages);
            keys.copyFrom(other.keys);
            moments.copyFrom(other.moments);
        }

        /** False: there is no room, and pages may have been swept in vain; the caller takes that back. */
        boolean write(long bits, int length, Row source, int from, int valueLength) {
            int size = sizeOf(length, valueLength);
            int record = pages.admit(size, pages.makeRoom(size));
            if (record == NONE) {
                return false;
            }
            pages.writeValue(record, source, from, valueLength);
            int position = keys.settledPosition(bits, length);
            seq++;
            keys.addVersion(position, seq, record);
            settle(position);
            return true;
        }

        int strike(int position) {
            seq++;
            keys.addVersion(position, seq, NONE);
            return settle(position);
        }

        /** Versions that nothing holds go: how many bytes are dead by that. */
        int settle(int position) {
            int n = keys.versionsAt(position);
            int kept = 0;
            int dead = 0;
            for (int i = 0; i < n; i++) {
                int record = keys.recordAt(position, i);
                int number = keys.numberAt(position, i);
                boolean stays = i == n - 1 || moments.holdsOneOf(number, keys.numberAt(position, i + 1));
                if (stays && (record != NONE || kept > 0)) {
                    keys.setVersion(position, kept, number, record);
                    kept++;
                } else if (record != NONE) {
                    dead += pages.bury(record);
                }
            }
            keys.keepVersions(position, kept);
            return dead;
        }

        int settleAll() {
            int dead = 0;
            // From the last on, since a key without versions is taken out.
            for (int i = keys.count - 1; i >= 0; i--) {
                dead += settle(i);
            }
            return dead;
        }

        /** How many keys changed, or NO_ROOM; the caller takes back what was done till then. */
        int rollTo(int moment, Row carried) {
            int changes = 0;
            int position = 0;
            for (int n = 0; n < RECORDS && position < keys.count; n++) {
                int then = keys.seenAt(position, moment);
                int before = keys.count;
                if (then != keys.seenAt(position, seq)) {
                    changes++;
                    // The value is carried aside, since sweeping may move its record.
                    pages.readValue(then, carried);
                    if (then == NONE) {
                        strike(position);
                    } else if (!write(keys.bitsAt(position), keys.lengthAt(position), carried, 0, carried.length)) {
                        return NO_ROOM;
                    }
                }
                // A key that went altogether left its position to the next one.
                position += keys.count == before ? 1 : 0;
            }
            return changes;
        }

        boolean isTellable(int position, int moment, long prefix, int prefixLength) {
            return keys.beginsWith(position, prefix, prefixLength) && keys.seenAt(position, moment) != NONE;
        }

        int tellable(int moment, long prefix, int prefixLength) {
            int found = 0;
            for (int i = 0; i < keys.count; i++) {
                if (isTellable(i, moment, prefix, prefixLength)) {
                    found++;
                }
            }
            return found;
        }

        int leftOf(int iterator) {
            int moment = moments.heldAt(SNAPSHOTS + iterator);
            int all = tellable(moment, moments.prefixOf(iterator), moments.prefixLengthOf(iterator));
            return all - moments.toldBy(iterator);
        }

        /** The position of the key that an iterator tells next: what is seen at its moment stays, so a count tells it. */
        int nextOf(int iterator) {
            int moment = moments.heldAt(SNAPSHOTS + iterator);
            long prefix = moments.prefixOf(iterator);
            int prefixLength = moments.prefixLengthOf(iterator);
            int told = moments.toldBy(iterator);
            for (int i = 0; i < keys.count; i++) {
                if (isTellable(i, moment, prefix, prefixLength)) {
                    if (told == 0) {
                        return i;
                    }
                    told--;
                }
            }
            return NONE;
        }

        int liveOn(int page) {
            int live = 0;
            for (int i = 0; i < keys.count; i++) {
                int record = keys.seenAt(i, seq);
                if (record != NONE && pages.tellRecord(record, 1) == page) {
                    live += pages.tellRecord(record, 3);
                }
            }
            return live;
        }

        int liveBytes() {
            int live = 0;
            for (int i = 0; i < keys.count; i++) {
                int record = keys.seenAt(i, seq);
                if (record != NONE) {
                    live += pages.tellRecord(record, 3);
                }
            }
            return live;
        }

        int keysOfBucket(int b) {
            int found = 0;
            for (int i = 0; i < keys.count; i++) {
                if (keys.seenAt(i, seq) != NONE && bucketOf(keys.bitsAt(i), keys.lengthAt(i)) == b) {
                    found++;
                }
            }
            return found;
        }
    }

    /** The keys that have versions, in order. */
    private static final class Keys {
        int count;
        // Slots of keys by position; behind those in use stand the unused ones.
        final int[] order = new int[RECORDS];
        final long[] bits = new long[RECORDS];
        final int[] length = new int[RECORDS];
        final int[] versionCount = new int[RECORDS];
        final int[] number = new int[RECORDS * VERSIONS];
        final int[] record = new int[RECORDS * VERSIONS];

        Keys() {
            for (int i = 0; i < RECORDS; i++) {
                order[i] = i;
            }
        }

        void copyFrom(Keys other) {
            count = other.count;
            System.arraycopy(other.order, 0, order, 0, RECORDS);
            System.arraycopy(other.bits, 0, bits, 0, RECORDS);
            System.arraycopy(other.length, 0, length, 0, RECORDS);
            System.arraycopy(other.versionCount, 0, versionCount, 0, RECORDS);
            System.arraycopy(other.number, 0, number, 0, RECORDS * VERSIONS);
            System.arraycopy(other.record, 0, record, 0, RECORDS * VERSIONS);
        }

        static boolean isSlot(int slot) {
            return slot >= 0 && slot < RECORDS;
        }

        int slotAt(int position) {
            return position >= 0 && position < count && position < RECORDS ? order[position] : NONE;
        }

        /** Where a version of a key stands in the rows of numbers and records, or NONE. */
        int rowOf(int position, int i) {
            int slot = slotAt(position);
            boolean stays = isSlot(slot) && i >= 0 && i < VERSIONS && i < versionCount[slot];
            return stays ? slot * VERSIONS + i : NONE;
        }

        long bitsAt(int position) {
            int slot = slotAt(position);
            return isSlot(slot) ? bits[slot] : 0L;
        }

        int lengthAt(int position) {
            int slot = slotAt(position);
            return isSlot(slot) ? length[slot] : 0;
        }

        int versionsAt(int position) {
            int slot = slotAt(position);
            return isSlot(slot) ? versionCount[slot] : 0;
        }

        int numberAt(int position, int i) {
            int row = rowOf(position, i);
            return row >= 0 && row < number.length ? number[row] : NONE;
        }

        int recordAt(int position, int i) {
            int row = rowOf(position, i);
            return row >= 0 && row < record.length ? record[row] : NONE;
        }

        int allVersions() {
            int all = 0;
            for (int i = 0; i < count; i++) {
                all += versionsAt(i);
            }
            return all;
        }

        int firstNotAhead(long keyBits, int keyLength) {
            int low = 0;
            int high = count;
            for (int n = 0; n < RECORDS && low < high; n++) {
                int middle = (low + high) / 2;
                if (isAhead(bitsAt(middle), lengthAt(middle), keyBits, keyLength)) {
                    low = middle + 1;
                } else {
                    high = middle;
                }
            }
            return low;
        }

        int positionOf(long keyBits, int keyLength) {
            int position = firstNotAhead(keyBits, keyLength);
            return isKeyAt(position, keyBits, keyLength) ? position : NONE;
        }

        boolean isKeyAt(int position, long keyBits, int keyLength) {
            return position < count && bitsAt(position) == keyBits && lengthAt(position) == keyLength;
        }

        /** The position of a key, which gets one if it has none. */
        int settledPosition(long keyBits, int keyLength) {
            int position = firstNotAhead(keyBits, keyLength);
            if (isKeyAt(position, keyBits, keyLength) || position < 0 || count < 0 || count >= RECORDS) {
                return position;
            }
            int slot = order[count];
            if (!isSlot(slot)) {
                return NONE;
            }
            for (int i = count; i > position; i--) {
                order[i] = order[i - 1];
            }
            order[position] = slot;
            count++;
            bits[slot] = keyBits;
            length[slot] = keyLength;
            versionCount[slot] = 0;
            return position;
        }

        void addVersion(int position, int newNumber, int newRecord) {
            int slot = slotAt(position);
            if (isSlot(slot) && versionCount[slot] < VERSIONS) {
                versionCount[slot]++;
                setVersion(position, versionCount[slot] - 1, newNumber, newRecord);
            }
        }

        void setVersion(int position, int i, int newNumber, int newRecord) {
            int row = rowOf(position, i);
            if (row >= 0 && row < number.length && row < record.length) {
                number[row] = newNumber;
                record[row] = newRecord;
            }
        }

        /** The first n versions stay; a key without any is taken out. */
        void keepVersions(int position, int n) {
            int slot = slotAt(position);
            if (!isSlot(slot)) {
                return;
            }
            versionCount[slot] = n;
            if (n > 0) {
                return;
            }
            count--;
            for (int i = position; i < count; i++) {
                order[i] = order[i + 1];
            }
            order[count] = slot;
        }

        /** The record by which a key is seen at a moment. */
        int seenAt(int position, int moment) {
            int slot = slotAt(position);
            if (!isSlot(slot)) {
                return NONE;
            }
            for (int i = Math.min(versionCount[slot], VERSIONS) - 1; i >= 0; i--) {
                if (number[slot * VERSIONS + i] <= moment) {
                    return record[slot * VERSIONS + i];
                }
            }
            return NONE;
        }

        int alikeAt(int position, int other) {
            return alikeBytes(bitsAt(position), lengthAt(position), bitsAt(other), lengthAt(other));
        }

        boolean beginsWith(int position, long prefix, int prefixLength) {
            return alikeBytes(bitsAt(position), lengthAt(position), prefix, prefixLength) == prefixLength;
        }
    }

    /** The moments that are held: first those of the snapshots, then those of the iterators. */
    private static final class Moments {
        final int[] held = new int[MOMENTS];
        final long[] prefix = new long[ITERATORS];
        final int[] prefixLength = new int[ITERATORS];
        final int[] told = new int[ITERATORS];

        Moments() {
            for (int i = 0; i < MOMENTS; i++) {
                held[i] = NONE;
            }
        }

        void copyFrom(Moments other) {
            System.arraycopy(other.held, 0, held, 0, MOMENTS);
            System.arraycopy(other.prefix, 0, prefix, 0, ITERATORS);
            System.arraycopy(other.prefixLength, 0, prefixLength, 0, ITERATORS);
            System.arraycopy(other.told, 0, told, 0, ITERATORS);
        }

        int heldAt(int holder) {
            return holder >= 0 && holder < MOMENTS ? held[holder] : NONE;
        }

        void hold(int holder, int moment) {
            if (holder >= 0 && holder < MOMENTS) {
                held[holder] = moment;
            }
        }

        void releaseAll() {
            for (int i = 0; i < MOMENTS; i++) {
                held[i] = NONE;
            }
        }

        void start(int iterator, int moment, long bits, int length) {
            if (isIterator(iterator)) {
                held[SNAPSHOTS + iterator] = moment;
                prefix[iterator] = bits;
                prefixLength[iterator] = length;
                told[iterator] = 0;
            }
        }

        void advance(int iterator) {
            if (isIterator(iterator)) {
                told[iterator]++;
            }
        }

        long prefixOf(int iterator) {
            return isIterator(iterator) ? prefix[iterator] : 0L;
        }

        int prefixLengthOf(int iterator) {
            return isIterator(iterator) ? prefixLength[iterator] : 0;
        }

        int toldBy(int iterator) {
            return isIterator(iterator) ? told[iterator] : 0;
        }

        /** Whether a moment from a number on, but ahead of another, is held. */
        boolean holdsOneOf(int from, int to) {
            for (int i = 0; i < MOMENTS; i++) {
                if (held[i] >= from && held[i] < to) {
                    return true;
                }
            }
            return false;
        }

        int bits(int from, int n) {
            int bits = 0;
            for (int i = 0; i < n; i++) {
                if (heldAt(from + i) != NONE) {
                    bits |= 1 << i;
                }
            }
            return bits;
        }
    }

    /** Pages with records behind one another, and the terms by which they are filled and swept. */
    private static final class Pages {
        int rule;
        int choice;
        int last = NONE;
        int putBytes;
        int sweptBytes;
        int sweeps;
        int unusedCount = RECORDS;
        final int[] end = new int[PAGES];
        final int[] erases = new int[PAGES];
        final int[] slotCount = new int[PAGES];
        // A page's records in order; NONE stands for a dead one.
        final int[] slotRecord = new int[RECORDS];
        final int[] slotSize = new int[RECORDS];
        // Numbers of records that no record has now.
        final int[] unused = new int[RECORDS];
        final int[] recordPlace = new int[RECORDS];
        final int[] recordSize = new int[RECORDS];
        final int[] valueLength = new int[RECORDS];
        // Behind a record's header come its value's bytes; the key's stand in the index.
        final byte[] bytes = new byte[PAGES * PAGE_BYTES];

        Pages() {
            for (int i = 0; i < RECORDS; i++) {
                unused[i] = RECORDS - 1 - i;
            }
        }

        void copyFrom(Pages other) {
            rule = other.rule;
            choice = other.choice;
            last = other.last;
            putBytes = other.putBytes;
            sweptBytes = other.sweptBytes;
            sweeps = other.sweeps;
            unusedCount = other.unusedCount;
            System.arraycopy(other.end, 0, end, 0, PAGES);
            System.arraycopy(other.erases, 0, erases, 0, PAGES);
            System.arraycopy(other.slotCount, 0, slotCount, 0, PAGES);
            System.arraycopy(other.slotRecord, 0, slotRecord, 0, RECORDS);
            System.arraycopy(other.slotSize, 0, slotSize, 0, RECORDS);
            System.arraycopy(other.unused, 0, unused, 0, RECORDS);
            System.arraycopy(other.recordPlace, 0, recordPlace, 0, RECORDS);
            System.arraycopy(other.recordSize, 0, recordSize, 0, RECORDS);
            System.arraycopy(other.valueLength, 0, valueLength, 0, RECORDS);
            System.arraycopy(other.bytes, 0, bytes, 0, PAGES * PAGE_BYTES);
        }

        int endOf(int p) {
            return isPage(p) ? end[p] : 0;
        }

        int erasesOf(int p) {
            return isPage(p) ? erases[p] : 0;
        }

        int deadOn(int p) {
            int dead = 0;
            if (isPage(p)) {
                int first = p * SLOTS;
                for (int i = 0; i < slotCount[p] && i < SLOTS; i++) {
                    dead += slotRecord[first + i] == NONE ? slotSize[first + i] : 0;
                }
            }
            return dead;
        }

        int recordsOn(int p) {
            int records = 0;
            if (isPage(p)) {
                int first = p * SLOTS;
                for (int i = 0; i < slotCount[p] && i < SLOTS; i++) {
                    records += slotRecord[first + i] == NONE ? 0 : 1;
                }
            }
            return records;
        }

        int freePages() {
            int free = 0;
            for (int p = 0; p < PAGES; p++) {
                free += end[p] == 0 ? 1 : 0;
            }
            return free;
        }

        int written() {
            int all = 0;
            for (int p = 0; p < PAGES; p++) {
                all += end[p];
            }
            return all;
        }

        int deadBytes() {
            int dead = 0;
            for (int p = 0; p < PAGES; p++) {
                dead += deadOn(p);
            }
            return dead;
        }

        int mostErases() {
            int most = 0;
            for (int p = 0; p < PAGES; p++) {
                most = Math.max(most, erases[p]);
            }
            return most;
        }

        int fewestErases() {
            int fewest = erases[0];
            for (int p = 1; p < PAGES; p++) {
                fewest = Math.min(fewest, erases[p]);
            }
            return fewest;
        }

        /** Of a record, what 1: its page, 2: its place there, 3: its size. */
        int tellRecord(int record, int what) {
            if (!isRecord(record)) {
                return NONE;
            }
            if (what == 3) {
                return recordSize[record];
            }
            return what == 1 ? recordPlace[record] / PAGE_BYTES : recordPlace[record] % PAGE_BYTES;
        }

        /** The page in use to which a record comes by the rule, but for one. */
        int fitting(int size, int except) {
            int tightest = NONE;
            int fullest = 0;
            for (int p = 0; p < PAGES; p++) {
                boolean fits = end[p] > 0 && PAGE_BYTES - end[p] >= size && p != except;
                if (!fits || rule == 0 && p != last) {
                    continue;
                }
                if (rule == 1) {
                    return p;
                }
                if (end[p] > fullest) {
                    fullest = end[p];
                    tightest = p;
                }
            }
            return tightest;
        }

        int leastWornFree() {
            int least = NONE;
            int fewest = 0;
            for (int p = 0; p < PAGES; p++) {
                if (end[p] == 0 && (least == NONE || erases[p] < fewest)) {
                    least = p;
                    fewest = erases[p];
                }
            }
            return least;
        }

        int placeToPut(int size) {
            int p = fitting(size, NONE);
            // The only free page is kept for sweeping.
            return p != NONE || freePages() < 2 ? p : leastWornFree();
        }

        /** Sweeps till a put has a place: that, or NONE. */
        int makeRoom(int size) {
            int place = placeToPut(size);
            // No sweep makes a record dead, so each page is swept once at the most.
            for (int n = 0; n < PAGES && place == NONE; n++) {
                int p = chosen(choice);
                if (p == NONE) {
                    return NONE;
                }
                wipe(p);
                place = placeToPut(size);
            }
            return place;
        }

        /** The number of a new record that is put to a page, or NONE. */
        int admit(int size, int p) {
            if (p == NONE || unusedCount < 1 || unusedCount > RECORDS) {
                return NONE;
            }
            unusedCount--;
            int record = unused[unusedCount];
            if (isRecord(record)) {
                recordSize[record] = size;
                valueLength[record] = 0;
                append(record, p);
                putBytes += size;
            }
            return record;
        }

        void append(int record, int p) {
            if (record < 0 || record >= RECORDS || p < 0 || p >= PAGES || slotCount[p] < 0 || slotCount[p] >= SLOTS) {
                return;
            }
            int slot = p * SLOTS + slotCount[p];
            slotRecord[slot] = record;
            slotSize[slot] = recordSize[record];
            slotCount[p]++;
            recordPlace[record] = p * PAGE_BYTES + end[p];
            end[p] += recordSize[record];
            last = p;
        }

        /** A record is dead: how many bytes that are. */
        int bury(int record) {
            if (!isRecord(record) || unusedCount < 0 || unusedCount >= RECORDS) {
                return 0;
            }
            int p = recordPlace[record] / PAGE_BYTES;
            for (int i = 0; isPage(p) && i < slotCount[p] && i < SLOTS; i++) {
                if (slotRecord[p * SLOTS + i] == record) {
                    slotRecord[p * SLOTS + i] = NONE;
                }
            }
            unused[unusedCount] = record;
            unusedCount++;
            return recordSize[record];
        }

        /** The page that is swept next by a choice. */
        int chosen(int byChoice) {
            int best = NONE;
            int bestWorth = 0;
            for (int p = 0; p < PAGES; p++) {
                int dead = deadOn(p);
                if (dead == 0) {
                    continue;
                }
                int worth = byChoice == 0 ? dead : byChoice == 1 ? dead - end[p] : -erases[p];
                if (best == NONE || worth > bestWorth) {
                    best = p;
                    bestWorth = worth;
                }
            }
            return best;
        }

        /** A page is swept: how many bytes came to others. */
        int wipe(int p) {
            if (!isPage(p)) {
                return 0;
            }
            int moved = 0;
            for (int i = 0; i < slotCount[p] && i < SLOTS; i++) {
                int record = slotRecord[p * SLOTS + i];
                if (isRecord(record)) {
                    relocate(record, p);
                    moved += recordSize[record];
                }
            }
            slotCount[p] = 0;
            end[p] = 0;
            erases[p]++;
            if (last == p) {
                last = NONE;
            }
            sweptBytes += moved;
            sweeps++;
            return moved;
        }

        void relocate(int record, int from) {
            if (record < 0 || record >= RECORDS) {
                return;
            }
            int to = fitting(recordSize[record], from);
            if (to == NONE) {
                to = leastWornFree();
            }
            int start = recordPlace[record];
            append(record, to);
            int target = recordPlace[record];
            int size = recordSize[record];
            if (start >= 0 && target >= 0 && size >= 0
                    && start + size <= bytes.length && target + size <= bytes.length) {
                System.arraycopy(bytes, start, bytes, target, size);
            }
        }

        void wipeTill(int free, int byChoice) {
            for (int n = 0; n < PAGES && freePages() < free; n++) {
                int p = chosen(byChoice);
                if (p == NONE) {
                    return;
                }
                wipe(p);
            }
        }

        int surelyFit(int size) {
            if (size < 1) {
                return 0;
            }
            int fit = Math.max(0, freePages() - 1) * (PAGE_BYTES / size);
            for (int p = 0; p < PAGES; p++) {
                if (end[p] > 0 && (rule != 0 || p == last)) {
                    fit += (PAGE_BYTES - end[p]) / size;
                }
            }
            return fit;
        }

        void writeValue(int record, Row source, int from, int n) {
            if (!isRecord(record)) {
                return;
            }
            valueLength[record] = n;
            int start = recordPlace[record] + HEADER;
            for (int i = 0; i < n && start >= 0 && start + i < bytes.length; i++) {
                bytes[start + i] = (byte) source.byteAt(from + i);
            }
        }

        void readValue(int record, Row target) {
            target.length = 0;
            if (!isRecord(record)) {
                return;
            }
            int start = recordPlace[record] + HEADER;
            for (int i = 0; i < valueLength[record] && start >= 0 && start + i < bytes.length; i++) {
                target.addByte(bytes[start + i]);
            }
        }
    }

    /** The live records put anew onto free pages, on paper. */
    private static final class Packing {
        int count;
        int pages;
        final int[] number = new int[RECORDS];
        final int[] size = new int[RECORDS];
        final int[] end = new int[RECORDS];

        void gather(Drive drive) {
            count = 0;
            for (int i = 0; i < drive.keys.count; i++) {
                int latest = drive.keys.versionsAt(i) - 1;
                int record = drive.keys.recordAt(i, latest);
                if (record != NONE) {
                    insert(drive.keys.numberAt(i, latest), drive.pages.tellRecord(record, 3));
                }
            }
        }

        void insert(int newNumber, int newSize) {
            if (count >= RECORDS) {
                return;
            }
            int at = count;
            while (at > 0 && number[at - 1] > newNumber) {
                number[at] = number[at - 1];
                size[at] = size[at - 1];
                at--;
            }
            number[at] = newNumber;
            size[at] = newSize;
            count++;
        }

        int byNumber(int rule) {
            pages = 0;
            for (int i = 0; i < count; i++) {
                lay(size[i], rule);
            }
            return pages;
        }

        int bySize() {
            pages = 0;
            for (int wanted = SIZE_MOST; wanted >= SIZE_LEAST; wanted -= 2) {
                for (int i = 0; i < count; i++) {
                    if (size[i] == wanted) {
                        lay(wanted, 1);
                    }
                }
            }
            return pages;
        }

        void lay(int newSize, int rule) {
            int p = fittingPage(newSize, rule);
            if (p == NONE && pages < RECORDS) {
                p = pages;
                end[p] = 0;
                pages++;
            }
            if (p != NONE) {
                end[p] += newSize;
            }
        }

        int fittingPage(int newSize, int rule) {
            int tightest = NONE;
            int fullest = 0;
            // By rule 0 the page opened last is the one to which a record came last.
            for (int p = rule == 0 ? Math.max(0, pages - 1) : 0; p < pages; p++) {
                boolean fits = PAGE_BYTES - end[p] >= newSize;
                if (fits && rule < 2) {
                    return p;
                }
                if (fits && end[p] > fullest) {
                    fullest = end[p];
                    tightest = p;
                }
            }
            return tightest;
        }
    }
}
