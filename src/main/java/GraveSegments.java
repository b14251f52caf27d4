/**
 * Rows in segments as they come, with graves for what is dropped; an index that is made anew when
 * all is opened again; snapshots that see their moment; segments cleaned by copying what lives;
 * cuts at any byte, also within cleaning.
 */
public final class GraveSegments {
    public static final int NONE = -1;

    private static final int UNKNOWN = -1;
    private static final int OUTSIDE = -2;
    private static final int WRONG_STATE = -3;
    private static final int NO_ROOM = -4;

    private static final int MOST_SEGMENTS = 12;
    private static final int MOST_FED = 4;
    private static final int MOST_WHOLE = 100;
    private static final int LAST_NUMBER = 2147483647;

    private final Segments segments;
    private final Index index;
    private final Snapshots snapshots;
    private final Draft draft;
    private final int[] contents;
    private int contentsCount;
    private final int[] survivors;
    private int survivorCount;
    private int numberWrittenLast;
    private boolean closed;
    private boolean badMet;
    private int badNumber;

    public GraveSegments(int segments) {
        int total = Math.max(1, Math.min(MOST_SEGMENTS, segments));
        this.segments = new Segments(total);
        this.index = new Index(total);
        this.snapshots = new Snapshots();
        this.draft = new Draft();
        this.contents = new int[RowForm.MOST_CONTENTS];
        this.survivors = new int[Index.SLOTS];
    }

    public int feed(int b, int n) {
        if (n < 0 || n > MOST_FED) {
            return OUTSIDE;
        }
        if (contentsCount + n > RowForm.MOST_CONTENTS) {
            return NO_ROOM;
        }
        for (int i = n - 1; i >= 0; i--) {
            contents[contentsCount] = (b >>> (8 * i)) & 255;
            contentsCount++;
        }
        return contentsCount;
    }

    public int put(int key) {
        if (closed) {
            return WRONG_STATE;
        }
        if (!RowForm.isKey(key)) {
            return OUTSIDE;
        }
        int answer = writeRow(RowForm.KEPT, key, contentsCount);
        if (answer != NO_ROOM) {
            contentsCount = 0;
        }
        return answer;
    }

    public int drop(int key) {
        if (closed) {
            return WRONG_STATE;
        }
        if (slotSeen(NONE, key) == NONE) {
            return UNKNOWN;
        }
        return writeRow(RowForm.GRAVE, key, 0);
    }

    public int length(int snapshot, int key) {
        int slot = slotSeen(snapshot, key);
        return slot == NONE ? NONE : index.contentsCount[slot];
    }

    public int find(int snapshot, int key, int i) {
        int slot = slotSeen(snapshot, key);
        if (slot == NONE || i < 0 || i >= index.contentsCount[slot]) {
            return NONE;
        }
        return segments.bytes[index.place[slot] + RowForm.HEAD + i];
    }

    public int snapshot() {
        if (closed) {
            return WRONG_STATE;
        }
        int number = snapshots.leastNotOpen();
        if (number == NONE) {
            return NO_ROOM;
        }
        snapshots.open(number, numberWrittenLast);
        return number;
    }

    public int release(int snapshot) {
        if (closed) {
            return WRONG_STATE;
        }
        if (!snapshots.isOpen(snapshot)) {
            return UNKNOWN;
        }
        snapshots.close(snapshot);
        return 1;
    }

    public int sync() {
        if (closed) {
            return WRONG_STATE;
        }
        return segments.settle();
    }

    public int crash(int kept) {
        if (closed) {
            return WRONG_STATE;
        }
        if (kept < 0) {
            return OUTSIDE;
        }
        int lost = segments.loseBehind(kept);
        shut();
        return lost;
    }

    public int clean(int part, int whole, int kept) {
        if (closed) {
            return WRONG_STATE;
        }
        if (whole < 1 || whole > MOST_WHOLE || part < 0 || part > whole || kept < NONE) {
            return OUTSIDE;
        }
        segments.settle();
        int copied = 0;
        int cleaned = 0;
        for (int segment = 0; segment < segments.total; segment++) {
            if (!isDue(segment, part, whole)) {
                continue;
            }
            gatherSurvivors(segment);
            if (!survivorsHaveRoom()) {
                break;
            }
            int most = kept == NONE ? Segments.SIZE : kept - copied;
            int more = copySurvivors(most);
            if (more > most) {
                shut();
                break;
            }
            copied += more;
            segments.settle();
            segments.wipe(segment);
            index.forget(segment);
            cleaned++;
        }
        return cleaned;
    }

    public int reopen() {
        if (!closed) {
            return WRONG_STATE;
        }
        closed = false;
        badMet = false;
        numberWrittenLast = 0;
        for (int segment = 0; segment < segments.total; segment++) {
            readSegment(segment);
        }
        return index.keysWithSomething(numberWrittenLast);
    }

    public int badAt() {
        return badMet ? badNumber : NONE;
    }

    public int poke(int segment, int i, int mask) throws ArrayIndexOutOfBoundsException {
        int cell = cellOf(segment, i);
        if (!closed) {
            return WRONG_STATE;
        }
        if (mask < 0 || mask > 255) {
            return OUTSIDE;
        }
        segments.bytes[cell] ^= mask;
        return segments.bytes[cell];
    }

    public int byteAt(int segment, int i) throws ArrayIndexOutOfBoundsException {
        return segments.bytes[cellOf(segment, i)];
    }

    public int living(int segment) {
        if (closed || !segments.has(segment)) {
            return NONE;
        }
        return index.livingBytes(segment, snapshots);
    }

    public int used(int segment) {
        return segments.has(segment) ? segments.taken[segment] : NONE;
    }

    public int count(int what) throws ArrayIndexOutOfBoundsException {
        switch (what) {
            case 0:
                return index.keysWithSomething(numberWrittenLast);
            case 1:
                return segments.inUseCount();
            case 2:
                return numberWrittenLast;
            case 3:
                return segments.held;
            case 4:
                return closed ? 1 : 0;
            case 5:
                return snapshots.openCount();
            case 6:
                return contentsCount;
            case 7:
                return segments.written;
            default:
                throw new ArrayIndexOutOfBoundsException();
        }
    }

    private int cellOf(int segment, int i) {
        if (!segments.has(segment) || i < 0 || i >= Segments.SIZE) {
            throw new ArrayIndexOutOfBoundsException();
        }
        return segment * Segments.SIZE + i;
    }

    /** The slot of the row whose CONTENTS a KEY has then; NONE if it has nothing. */
    private int slotSeen(int snapshot, int key) {
        if (closed || !RowForm.isKey(key)) {
            return NONE;
        }
        if (snapshot != NONE && !snapshots.isOpen(snapshot)) {
            return NONE;
        }
        int moment = snapshot == NONE ? numberWrittenLast : snapshots.moment[snapshot];
        int slot = index.slotAt(key, moment);
        return slot == NONE || index.isGrave[slot] ? NONE : slot;
    }

    /** Writes a row with the next NUMBER and the first so many CONTENTS at hand. */
    private int writeRow(int kind, int key, int size) {
        if (numberWrittenLast == LAST_NUMBER) {
            return NO_ROOM;
        }
        int segment = segments.segmentFor(RowForm.bytesWith(size));
        if (segment == NONE) {
            return NO_ROOM;
        }
        draft.make(kind, key, numberWrittenLast + 1, contents, size);
        segments.written = segment;
        int place = segments.endOf(segment);
        for (int i = 0; i < draft.size; i++) {
            segments.append(draft.bytes[i]);
        }
        index.add(segment, place, segments.bytes);
        numberWrittenLast++;
        return numberWrittenLast;
    }

    /**
     * The index, the snapshots and the place to write go with what is open. What is still HELD BACK
     * stands in its SEGMENT for good from now on, so a later crash does not take it.
     */
    private void shut() {
        closed = true;
        segments.settle();
        segments.written = NONE;
        index.forgetAll();
        snapshots.closeAll();
    }

    /** Compared by products, so that a SEGMENT IN USE without a USED byte needs no division. */
    private boolean isDue(int segment, int part, int whole) {
        if (segments.isFree(segment) || segment == segments.written) {
            return false;
        }
        int taken = segments.taken[segment];
        int dead = taken - index.livingBytes(segment, snapshots);
        return dead * whole >= part * taken;
    }

    /** Settled before the first copy, since a copy in an earlier SEGMENT takes its row's place. */
    private void gatherSurvivors(int segment) {
        survivorCount = 0;
        int first = segment * Index.SLOTS;
        for (int slot = first; slot < first + Index.SLOTS; slot++) {
            if (index.lives(slot, snapshots)) {
                survivors[survivorCount] = slot;
                survivorCount++;
            }
        }
    }

    /** One FREE SEGMENT takes all the rest, since the survivors come out of a single SEGMENT. */
    private boolean survivorsHaveRoom() {
        int room = segments.roomInWritten();
        for (int i = 0; i < survivorCount; i++) {
            int size = index.bytesOf(survivors[i]);
            if (size > room) {
                return segments.leastFree() != NONE;
            }
            room -= size;
        }
        return true;
    }

    /** How many bytes were copied; more than the most allowed means that the most were, and a cut. */
    private int copySurvivors(int most) {
        int copied = 0;
        for (int i = 0; i < survivorCount; i++) {
            int size = index.bytesOf(survivors[i]);
            copyRow(survivors[i], Math.min(size, most - copied));
            copied += size;
            if (copied > most) {
                break;
            }
        }
        return copied;
    }

    /** Copies the first so many bytes of a row; it is in the index only if that is all of it. */
    private void copyRow(int slot, int howMany) {
        int size = index.bytesOf(slot);
        int segment = segments.segmentFor(size);
        if (segment == NONE) {
            return;
        }
        segments.written = segment;
        int place = segments.endOf(segment);
        for (int i = 0; i < howMany; i++) {
            segments.append(segments.bytes[index.place[slot] + i]);
        }
        if (howMany == size) {
            index.add(segment, place, segments.bytes);
        }
    }

    private void readSegment(int segment) {
        int start = segment * Segments.SIZE;
        int end = start + Segments.SIZE;
        int at = start;
        while (at < end && segments.bytes[at] != 0) {
            if (RowForm.isGood(segments.bytes, at, end)) {
                index.add(segment, at, segments.bytes);
                numberWrittenLast =
                        Math.max(numberWrittenLast, RowForm.numberAt(segments.bytes, at));
            } else {
                noteBad(at, end);
            }
            int behind = RowForm.behind(segments.bytes, at, end);
            if (behind <= at) {
                break;
            }
            at = behind;
        }
        segments.taken[segment] = at - start;
    }

    /** A flag tells that one was met, since its NUMBER as it stands may look like NONE. */
    private void noteBad(int at, int end) {
        if (badMet) {
            return;
        }
        badMet = true;
        badNumber = at + RowForm.NUMBER_END <= end ? RowForm.numberAt(segments.bytes, at) : 0;
    }

    /** How a row stands in bytes. */
    private static final class RowForm {
        static final int KEPT = 1;
        static final int GRAVE = 2;
        static final int KEYS = 1000;
        static final int MOST_CONTENTS = 20;
        static final int NUMBER_END = 7;
        static final int HEAD = 8;
        static final int SUM = 8;
        static final int SUM_TURN = 45;
        static final long SUM_FACTOR = 0x9E3779B97F4A7C15L;

        static boolean isKey(int key) {
            return key >= 0 && key < KEYS;
        }

        static int bytesWith(int size) {
            return HEAD + size + SUM;
        }

        static int keyAt(int[] bytes, int at) {
            return bytes[at + 1] << 8 | bytes[at + 2];
        }

        static int numberAt(int[] bytes, int at) {
            return bytes[at + 3] << 24 | bytes[at + 4] << 16 | bytes[at + 5] << 8 | bytes[at + 6];
        }

        static int contentsCountAt(int[] bytes, int at) {
            return bytes[at + NUMBER_END];
        }

        static long sumOf(int[] bytes, int from, int to) {
            long sum = 0;
            for (int i = from; i < to; i++) {
                long mixed = sum ^ bytes[i];
                sum = (mixed << SUM_TURN | mixed >>> (64 - SUM_TURN)) * SUM_FACTOR;
            }
            return sum;
        }

        static boolean hasSum(int[] bytes, int from, int to) {
            long sum = sumOf(bytes, from, to);
            for (int i = 0; i < SUM; i++) {
                if (bytes[to + i] != sumByte(sum, i)) {
                    return false;
                }
            }
            return true;
        }

        static int sumByte(long sum, int i) {
            return (int) (sum >>> (8 * (SUM - 1 - i))) & 255;
        }

        /** Where the next row begins, GOOD or BAD as this one is; NONE if no row can be told here. */
        static int behind(int[] bytes, int at, int end) {
            if (bytes[at] != KEPT && bytes[at] != GRAVE || at + HEAD > end) {
                return NONE;
            }
            int size = contentsCountAt(bytes, at);
            if (size > MOST_CONTENTS || at + bytesWith(size) > end) {
                return NONE;
            }
            return at + bytesWith(size);
        }

        static boolean isGood(int[] bytes, int at, int end) {
            int behind = behind(bytes, at, end);
            if (behind == NONE || !isKey(keyAt(bytes, at)) || numberAt(bytes, at) <= 0) {
                return false;
            }
            if (bytes[at] == GRAVE && contentsCountAt(bytes, at) != 0) {
                return false;
            }
            return hasSum(bytes, at, behind - SUM);
        }
    }

    /** A row's bytes before they are written, in one array for all rows. */
    private static final class Draft {
        final int[] bytes = new int[RowForm.HEAD + RowForm.MOST_CONTENTS + RowForm.SUM];
        int size;

        void make(int kind, int key, int number, int[] contents, int contentsCount) {
            size = 0;
            add(kind);
            add(key >>> 8);
            add(key);
            add(number >>> 24);
            add(number >>> 16);
            add(number >>> 8);
            add(number);
            add(contentsCount);
            for (int i = 0; i < contentsCount; i++) {
                add(contents[i]);
            }
            long sum = RowForm.sumOf(bytes, 0, size);
            for (int i = 0; i < RowForm.SUM; i++) {
                add(RowForm.sumByte(sum, i));
            }
        }

        void add(int b) {
            bytes[size] = b & 255;
            size++;
        }
    }

    /** The bytes of all SEGMENTS, one SEGMENT behind the other, and which of them are HELD BACK. */
    private static final class Segments {
        static final int SIZE = 200;

        final int total;
        final int[] bytes;
        final int[] taken;
        final int[] heldCells;
        int held;
        int written = NONE;

        Segments(int total) {
            this.total = total;
            this.bytes = new int[total * SIZE];
            this.taken = new int[total];
            this.heldCells = new int[total * SIZE];
        }

        boolean has(int segment) {
            return segment >= 0 && segment < total;
        }

        boolean isFree(int segment) {
            return bytes[segment * SIZE] == 0;
        }

        int leastFree() {
            for (int segment = 0; segment < total; segment++) {
                if (isFree(segment)) {
                    return segment;
                }
            }
            return NONE;
        }

        int inUseCount() {
            int inUse = 0;
            for (int segment = 0; segment < total; segment++) {
                if (!isFree(segment)) {
                    inUse++;
                }
            }
            return inUse;
        }

        int endOf(int segment) {
            return segment * SIZE + taken[segment];
        }

        int roomInWritten() {
            return written == NONE ? 0 : SIZE - taken[written];
        }

        /** The SEGMENT that a row of so many bytes goes to; NONE if there is no room. */
        int segmentFor(int size) {
            return size <= roomInWritten() ? written : leastFree();
        }

        /** A cell is FREE again only behind a sync, so no more are HELD BACK than there are. */
        void append(int b) {
            if (roomInWritten() == 0 || held == heldCells.length) {
                return;
            }
            int cell = endOf(written);
            bytes[cell] = b;
            heldCells[held] = cell;
            held++;
            taken[written]++;
        }

        int settle() {
            int settled = held;
            held = 0;
            return settled;
        }

        int loseBehind(int kept) {
            int lost = 0;
            for (int i = kept; i < held; i++) {
                bytes[heldCells[i]] = 0;
                lost++;
            }
            return lost;
        }

        void wipe(int segment) {
            for (int i = 0; i < SIZE; i++) {
                bytes[segment * SIZE + i] = 0;
            }
            taken[segment] = 0;
        }
    }

    /**
     * Where the rows are. Every SEGMENT has slots for as many rows as fit into it, so that the order
     * of slots is the order of rows by SEGMENTS and places; a slot without a row has the KEY NONE.
     */
    private static final class Index {
        static final int SLOTS = Segments.SIZE / (RowForm.HEAD + RowForm.SUM);

        final int[] rows;
        final int[] place;
        final int[] key;
        final int[] number;
        final int[] contentsCount;
        final boolean[] isGrave;

        Index(int total) {
            int slots = total * SLOTS;
            this.rows = new int[total];
            this.place = new int[slots];
            this.key = new int[slots];
            this.number = new int[slots];
            this.contentsCount = new int[slots];
            this.isGrave = new boolean[slots];
            for (int slot = 0; slot < slots; slot++) {
                key[slot] = NONE;
            }
        }

        void add(int segment, int at, int[] bytes) {
            if (rows[segment] == SLOTS) {
                return;
            }
            int slot = segment * SLOTS + rows[segment];
            rows[segment]++;
            place[slot] = at;
            key[slot] = RowForm.keyAt(bytes, at);
            number[slot] = RowForm.numberAt(bytes, at);
            contentsCount[slot] = RowForm.contentsCountAt(bytes, at);
            isGrave[slot] = bytes[at] == RowForm.GRAVE;
        }

        void forget(int segment) {
            rows[segment] = 0;
            for (int i = 0; i < SLOTS; i++) {
                key[segment * SLOTS + i] = NONE;
            }
        }

        void forgetAll() {
            for (int segment = 0; segment < rows.length; segment++) {
                forget(segment);
            }
        }

        int bytesOf(int slot) {
            return RowForm.bytesWith(contentsCount[slot]);
        }

        /** The slot of a KEY's row of the greatest NUMBER up to a MOMENT, a GRAVE too. */
        int slotAt(int wanted, int moment) {
            int best = NONE;
            for (int slot = 0; slot < key.length; slot++) {
                if (key[slot] == wanted && number[slot] <= moment
                        && (best == NONE || number[slot] > number[best])) {
                    best = slot;
                }
            }
            return best;
        }

        int keysWithSomething(int now) {
            int keys = 0;
            for (int slot = 0; slot < key.length; slot++) {
                if (key[slot] != NONE && !isGrave[slot] && slotAt(key[slot], now) == slot) {
                    keys++;
                }
            }
            return keys;
        }

        int livingBytes(int segment, Snapshots snapshots) {
            int living = 0;
            for (int slot = segment * SLOTS; slot < (segment + 1) * SLOTS; slot++) {
                if (lives(slot, snapshots)) {
                    living += bytesOf(slot);
                }
            }
            return living;
        }

        /** A row is its KEY's row from its own NUMBER on until the next NUMBER of its KEY. */
        boolean lives(int slot, Snapshots snapshots) {
            if (key[slot] == NONE) {
                return false;
            }
            boolean hasLesser = false;
            boolean hasGreater = false;
            int next = 0;
            for (int other = 0; other < key.length; other++) {
                if (key[other] != key[slot]) {
                    continue;
                }
                if (number[other] < number[slot]) {
                    hasLesser = true;
                } else if (number[other] > number[slot]) {
                    next = hasGreater ? Math.min(next, number[other]) : number[other];
                    hasGreater = true;
                } else if (other < slot) {
                    return false;
                }
            }
            if (isGrave[slot] && !hasLesser) {
                return false;
            }
            return !hasGreater || snapshots.anyWithin(number[slot], next);
        }
    }

    /** The snapshots and their MOMENTS. */
    private static final class Snapshots {
        static final int MOST = 4;

        final boolean[] opened = new boolean[MOST];
        final int[] moment = new int[MOST];

        boolean isOpen(int number) {
            return number >= 0 && number < MOST && opened[number];
        }

        int leastNotOpen() {
            for (int number = 0; number < MOST; number++) {
                if (!opened[number]) {
                    return number;
                }
            }
            return NONE;
        }

        int openCount() {
            int open = 0;
            for (int number = 0; number < MOST; number++) {
                if (opened[number]) {
                    open++;
                }
            }
            return open;
        }

        boolean anyWithin(int first, int before) {
            for (int number = 0; number < MOST; number++) {
                if (opened[number] && moment[number] >= first && moment[number] < before) {
                    return true;
                }
            }
            return false;
        }

        void open(int number, int now) {
            opened[number] = true;
            moment[number] = now;
        }

        void close(int number) {
            opened[number] = false;
        }

        void closeAll() {
            for (int number = 0; number < MOST; number++) {
                close(number);
            }
        }
    }
}
